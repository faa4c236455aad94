import java.io.IOException;
import java.lang.reflect.Constructor;
import java.lang.reflect.Field;
import java.lang.reflect.Method;
import java.lang.reflect.Modifier;
import java.nio.file.Files;
import java.nio.file.Path;
import java.util.ArrayList;
import java.util.HashSet;
import java.util.List;
import java.util.Set;
import java.util.TreeSet;

/** The face of the document, nothing beside it, and those rules of LANGUAGE.md that a program can see. */
final class FaceTest {
    private static final String CELL = "IndexOutOfBoundsException";
    private static final String ARGUMENT = "IllegalArgumentException";
    private static final String STATE = "IllegalStateException";
    private static final String NONE = "NoSuchElementException";

    static void run(Check check, Path source) throws IOException {
        methods(check);
        members(check);
        source(check, Files.readString(source));
        room(check);
    }

    private static void methods(Check check) {
        Set<String> due = new TreeSet<>();
        for (String name : new String[] {"pour", "topplesIf", "topplesIfBySweeps", "lostIf", "lostIfBySweeps"}) {
            due.add(face("int", name, "int int int", CELL, ARGUMENT));
        }
        due.add(face("int", "dig", "int int int", CELL, ARGUMENT, NONE));
        due.add(face("int", "plant", "int int", CELL, STATE));
        due.add(face("int", "uproot", "int int", CELL, STATE));
        due.add(face("int", "addWall", "int int char", CELL, ARGUMENT, STATE, "UnsupportedOperationException"));
        due.add(face("int", "removeWall", "int int char", CELL, ARGUMENT, NONE));
        due.add(face("boolean", "isClosed", "int int char", CELL, ARGUMENT));
        due.add(face("boolean", "isPlanted", "int int", CELL));
        due.add(face("int", "wave", "int int", CELL, ARGUMENT));
        due.add(face("int", "wind", "int", ARGUMENT));
        due.add(face("int", "addStep", "int int", CELL, ARGUMENT, STATE));
        due.add(face("int", "clearStorm", ""));
        due.add(face("int", "storm", "int", ARGUMENT, STATE));
        for (String name : new String[] {"height", "heightByFlows", "topplings"}) {
            due.add(face("int", name, "int int", CELL));
        }
        due.add(face("int", "flow", "int int char", CELL, ARGUMENT));
        due.add(face("int", "highest", "int", CELL));
        due.add(face("int", "roughness", "int", CELL));
        due.add(face("int", "flooded", "int", ARGUMENT));
        due.add(face("int", "floodedByRounds", "int", ARGUMENT));
        due.add(face("boolean", "isFlooded", "int int int", CELL, ARGUMENT));
        due.add(face("int", "sand", ""));
        due.add(face("int", "sea", ""));
        due.add(face("int", "brought", ""));
        due.add(face("float", "meanHeight", ""));
        Set<String> got = new TreeSet<>();
        for (Method method : Sandpiper.class.getDeclaredMethods()) {
            if (Modifier.isPublic(method.getModifiers())) {
                got.add(face(method.getReturnType().getSimpleName(), method.getName(),
                        names(method.getParameterTypes()), names(method.getExceptionTypes()).split(" ")));
            }
        }
        check.same("the methods of the face", got, due);
    }

    private static String face(String answer, String name, String arguments, String... exceptions) {
        return answer + " " + name + "(" + arguments + ") throws " + String.join(" ", exceptions);
    }

    private static String names(Class<?>[] kinds) {
        List<String> names = new ArrayList<>();
        for (Class<?> kind : kinds) {
            names.add(kind.getSimpleName());
        }
        return String.join(" ", names);
    }

    private static void members(Check check) {
        Class<?> kind = Sandpiper.class;
        check.same("public and final", kind.getModifiers() & (Modifier.PUBLIC | Modifier.FINAL),
                Modifier.PUBLIC | Modifier.FINAL);
        Constructor<?>[] constructors = kind.getDeclaredConstructors();
        check.same("one constructor", constructors.length, 1);
        check.same("without arguments", constructors[0].getParameterCount()
                + Modifier.toString(constructors[0].getModifiers()), "0public");
        Set<String> open = new HashSet<>();
        for (Method method : kind.getDeclaredMethods()) {
            if (Modifier.isPublic(method.getModifiers())) {
                open.add(method.getName());
            } else {
                check.same(method.getName() + " is private", Modifier.isPrivate(method.getModifiers()), true);
            }
        }
        for (Field field : kind.getDeclaredFields()) {
            check.same(field.getName() + " is private", Modifier.isPrivate(field.getModifiers()), true);
        }
        check.same("few classes", kind.getDeclaredClasses().length <= 11, true);
        Set<String> shared = new HashSet<>();
        for (Method method : kind.getDeclaredMethods()) {
            if (!Modifier.isPublic(method.getModifiers()) && open.contains(method.getName())) {
                shared.add(method.getName());
            }
        }
        for (Class<?> part : kind.getDeclaredClasses()) {
            check.same(part.getName() + " is static",
                    Modifier.isStatic(part.getModifiers()) && !Modifier.isPublic(part.getModifiers()), true);
            for (Method method : part.getDeclaredMethods()) {
                if (open.contains(method.getName())) {
                    shared.add(part.getName() + "." + method.getName());
                }
            }
            for (Field field : part.getDeclaredFields()) {
                check.same(field + " is not shared",
                        !Modifier.isStatic(field.getModifiers()) || Modifier.isFinal(field.getModifiers()), true);
            }
        }
        check.same("no name of a public method is used again", shared.toString(), "[]");
    }

    private static void source(Check check, String text) {
        String[] banned = {"try {", "catch", "finally", "->", "::", "synchronized", "assert ", "Exact(", "System.",
            "static {", "package ", "while (true)", "Random", "Thread", "hashCode", "getMessage", "Throwable"};
        for (String word : banned) {
            check.same("no '" + word + "'", text.contains(word), false);
        }
        check.same("one import", text.split("import ", -1).length - 1, 1);
        boolean plain = true;
        for (int i = 0; i < text.length(); i++) {
            plain &= text.charAt(i) < 128;
        }
        check.same("plain signs", plain, true);
    }

    /** A call makes nothing but the exception that it throws, so that many calls fit into one room. */
    private static void room(Check check) {
        com.sun.management.ThreadMXBean meter =
                (com.sun.management.ThreadMXBean) java.lang.management.ManagementFactory.getThreadMXBean();
        long self = Thread.currentThread().getId();
        Sandpiper beach = new Sandpiper();
        busy(beach);
        long before = meter.getThreadAllocatedBytes(self);
        for (int time = 0; time < 20; time++) {
            busy(beach);
        }
        long used = meter.getThreadAllocatedBytes(self) - before;
        check.same("calls make no objects (" + used + " bytes)", used < 2000, true);
    }

    private static void busy(Sandpiper beach) {
        beach.pour(3, 3, 60);
        if (beach.height(3, 3) > 0) {
            beach.dig(3, 3, 1);
        }
        beach.topplesIf(2, 2, 60);
        beach.topplesIfBySweeps(2, 2, 60);
        beach.lostIf(2, 2, 60);
        beach.lostIfBySweeps(2, 2, 60);
        beach.plant(1, 1);
        beach.uproot(1, 1);
        beach.addWall(2, 2, 's');
        beach.removeWall(2, 2, 's');
        beach.addStep(1, 30);
        beach.storm(5);
        beach.clearStorm();
        beach.wind(1);
        beach.flooded(9);
        beach.floodedByRounds(9);
        beach.isFlooded(1, 1, 3);
        beach.meanHeight();
    }
}
