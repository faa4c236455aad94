/** Counts the checks that hold and prints those that do not. */
final class Check {
    interface Setup {
        void prepare(Sandpiper beach);
    }

    interface Call {
        Object answer(Sandpiper beach);
    }

    static final Setup NOTHING = beach -> { };
    private static final String SIDES = "slwe";

    private int passed;
    private int failed;

    void same(String what, Object got, Object due) {
        if (got != null && got.equals(due)) {
            passed++;
        } else {
            failed++;
            System.out.println(what + ": got " + got + ", due is " + due);
        }
    }

    /** On a fresh beach made ready by the setup, the call gives the answer due. */
    void answers(String what, Setup setup, Call call, Object due) {
        Sandpiper beach = new Sandpiper();
        setup.prepare(beach);
        same(what, outcome(beach, call), due);
    }

    /** The call throws just this exception, and the beach is then as one on which it was not called. */
    void refuses(String what, Setup setup, Call call, String exception) {
        Sandpiper beach = new Sandpiper();
        setup.prepare(beach);
        same(what, outcome(beach, call), "throws." + exception);
        Sandpiper untouched = new Sandpiper();
        setup.prepare(untouched);
        same(what + " changes nothing", picture(beach), picture(untouched));
        same(what + " changes no storm", beach.clearStorm(), untouched.clearStorm());
    }

    static Object outcome(Sandpiper beach, Call call) {
        try {
            return call.answer(beach);
        } catch (RuntimeException refusal) {
            // The simple name of the very class: one that the machine throws has another one.
            return "throws." + refusal.getClass().getSimpleName();
        }
    }

    /** All that can be asked without changing anything, in 469 calls: a beach answers 512. */
    static String picture(Sandpiper beach) {
        StringBuilder text = new StringBuilder();
        for (int column = 0; column < 6; column++) {
            for (int row = 0; row < 7; row++) {
                text.append(beach.height(column, row)).append(beach.isPlanted(column, row) ? "p" : "b");
                text.append(beach.topplings(column, row));
                for (int side = 0; side < 4; side++) {
                    char letter = SIDES.charAt(side);
                    text.append(beach.isClosed(column, row, letter) ? "|" : " ");
                    text.append(beach.flow(column, row, letter));
                }
                text.append("; ");
            }
        }
        return text.append(beach.sand()).append(" ").append(beach.sea()).append(" ").append(beach.brought()).toString();
    }

    int passed() {
        return passed;
    }

    int failed() {
        return failed;
    }
}
