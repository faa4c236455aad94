import java.util.Random;

/** All promises: runs of calls drawn by lot, with fixed seeds, against the plain beach. */
final class RandomRunsTest {
    private static final int LONG_RUNS = 150;
    private static final int SHORT_RUNS = 300;
    private static final int ODD_RUNS = 60;
    private static final int LIFE = 512;
    private static final int SHORT_LIFE = 40;

    private final Random lots;
    private final Sandpiper beach = new Sandpiper();
    private final PlainBeach plain = new PlainBeach();
    private final int oddness;
    private String told;

    private RandomRunsTest(int seed, int oddness) {
        lots = new Random(seed);
        this.oddness = oddness;
    }

    static void run(Check check) {
        for (int seed = 1; seed <= LONG_RUNS; seed++) {
            check.same("a long run, seed " + seed, new RandomRunsTest(seed, 40).firstDifference(LIFE), "none");
        }
        for (int seed = 1; seed <= SHORT_RUNS; seed++) {
            RandomRunsTest run = new RandomRunsTest(-seed, 40);
            check.same("a short run, seed " + seed, run.firstDifference(SHORT_LIFE), "none");
            check.same("its end, seed " + seed, Views.picture(run.beach), run.plain.picture());
        }
        for (int seed = 1; seed <= ODD_RUNS; seed++) {
            check.same("odd arguments, seed " + seed, new RandomRunsTest(1000 + seed, 3).firstDifference(LIFE), "none");
        }
    }

    private String firstDifference(int calls) {
        for (int number = 1; number <= calls; number++) {
            Object due = null;
            Object got = null;
            int kind = lots.nextInt(36);
            int column = number(6, 0);
            int row = number(7, 0);
            int more = number(1 + lots.nextInt(60), 1);
            char side = side();
            int small = number(kind == 19 ? 9 : 5, 1);
            int level = number(lots.nextInt(3) > 0 ? 6 : 21, 0);
            told = kind + " " + column + " " + row + " " + more + " " + (int) side + " " + small + " " + level;
            got = outcome(() -> call(kind, column, row, more, side, small, level));
            due = outcome(() -> plainCall(kind, column, row, more, side, small, level));
            if (!got.equals(due)) {
                return "call " + number + " (" + told + ") answered " + got + ", due is " + due;
            }
        }
        return "none";
    }

    private interface Answer {
        Object get();
    }

    private static Object outcome(Answer answer) {
        try {
            return answer.get();
        } catch (RuntimeException refusal) {
            return "throws." + refusal.getClass().getName();
        }
    }

    private int number(int count, int least) {
        if (lots.nextInt(oddness) == 0) {
            int[] odd = {-1, 0, 5, 6, 7, 8, 9, 10, 20, 21, 42, 60, 61, Integer.MIN_VALUE, Integer.MAX_VALUE};
            return odd[lots.nextInt(odd.length)];
        }
        return least + lots.nextInt(count);
    }

    private char side() {
        if (lots.nextInt(oddness) == 0) {
            return (char) lots.nextInt(65536);
        }
        return "slwe".charAt(lots.nextInt(4));
    }

    private Object call(int kind, int column, int row, int more, char side, int small, int level) {
        switch (kind) {
            case 0: case 1: case 2: case 3: return beach.pour(column, row, more);
            case 4: return beach.dig(column, row, small);
            case 5: return beach.topplesIf(column, row, more);
            case 6: return beach.topplesIfBySweeps(column, row, more);
            case 7: return beach.lostIf(column, row, more);
            case 8: return beach.lostIfBySweeps(column, row, more);
            case 9: case 10: return beach.plant(column, row);
            case 11: return beach.uproot(column, row);
            case 12: case 13: case 14: return beach.addWall(column, row, side);
            case 15: return beach.removeWall(column, row, side);
            case 16: return beach.isClosed(column, row, side);
            case 17: return beach.isPlanted(column, row);
            case 18: return beach.wave(column, more);
            case 19: return beach.wind(small);
            case 20: return beach.addStep(column, more);
            case 21: return small < 3 ? beach.clearStorm() : 0;
            case 22: return beach.storm(small);
            case 23: return beach.height(column, row);
            case 24: return beach.heightByFlows(column, row);
            case 25: return beach.flow(column, row, side);
            case 26: return beach.topplings(column, row);
            case 27: return beach.highest(column);
            case 28: return beach.roughness(column);
            case 29: return beach.flooded(level);
            case 30: return beach.floodedByRounds(level);
            case 31: return beach.isFlooded(column, row, level);
            case 32: return beach.sand();
            case 33: return beach.sea();
            case 34: return beach.brought();
            default: return beach.meanHeight();
        }
    }

    private Object plainCall(int kind, int column, int row, int more, char side, int small, int level) {
        switch (kind) {
            case 0: case 1: case 2: case 3: return plain.pour(column, row, more);
            case 4: return plain.dig(column, row, small);
            case 5: case 6: return plain.trial(column, row, more)[0];
            case 7: case 8: return plain.trial(column, row, more)[1];
            case 9: case 10: return plain.plant(column, row);
            case 11: return plain.uproot(column, row);
            case 12: case 13: case 14: return plain.addWall(column, row, side);
            case 15: return plain.removeWall(column, row, side);
            case 16: return plain.isClosed(column, row, side);
            case 17: return plain.isPlanted(column, row);
            case 18: return plain.wave(column, more);
            case 19: return plain.wind(small);
            case 20: return plain.addStep(column, more);
            case 21: return small < 3 ? plain.clearStorm() : 0;
            case 22: return plain.storm(small);
            case 23: case 24: return plain.height(column, row);
            case 25: return plain.flow(column, row, side);
            case 26: return plain.topplings(column, row);
            case 27: return plain.highest(column);
            case 28: return plain.roughness(column);
            case 29: case 30: return plain.flooded(level);
            case 31: return plain.isFlooded(column, row, level);
            case 32: return plain.sand();
            case 33: return plain.sea();
            case 34: return plain.brought();
            default: return plain.meanHeight();
        }
    }
}
