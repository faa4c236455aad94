/** The checks of one sentence of the document; each is named after its place there and the sentence itself. */
final class Sentence {
    interface Call {
        Object answer(Sandpiper beach);
    }

    static final String NO_PLACE = "IndexOutOfBoundsException";
    static final String WRONG_ARGUMENT = "IllegalArgumentException";
    static final String WRONG_STATE = "IllegalStateException";
    static final String NONE_THERE = "NoSuchElementException";
    static final String CUT_OFF = "UnsupportedOperationException";

    private final Check check;
    private final String section;
    private final String text;
    private int checks;

    Sentence(Check check, String section, String text) {
        this.check = check;
        this.section = section;
        this.text = text;
    }

    String text() {
        return text;
    }

    int checks() {
        return checks;
    }

    void same(String what, Object got, Object due) {
        checks++;
        check.same(section + " '" + text + "' - " + what, got, due);
    }

    /** On a fresh beach made ready by the setup, the call gives the answer due. */
    void answers(String what, Beaches.Setup setup, Call call, Object due) {
        same(what, outcome(Beaches.ready(setup), call), due);
    }

    /** The call throws just this exception, and all other calls answer after it what they answered before. */
    void refuses(String what, Beaches.Setup setup, Call call, String exception) {
        same(what, outcome(Beaches.ready(setup), call), "throws." + exception);
        changesNothing(what, setup, call);
    }

    /** All other calls answer after the call what they answered before, whatever it answers itself. */
    void changesNothing(String what, Beaches.Setup setup, Call call) {
        StringBuilder changed = new StringBuilder();
        for (Views view : Views.values()) {
            Sandpiper beach = Beaches.ready(setup);
            String before = view.of(beach);
            outcome(beach, call);
            changed.append(view.of(beach).equals(before) ? "" : " " + view);
        }
        Sandpiper called = Beaches.ready(setup);
        outcome(called, call);
        changed.append(Views.deeds(called).equals(Views.deeds(Beaches.ready(setup))) ? "" : " deeds");
        same(what + ", what it changes", changed.toString(), "");
    }

    static Object outcome(Sandpiper beach, Call call) {
        try {
            return call.answer(beach);
        } catch (RuntimeException refusal) {
            // The simple name of the very class: one that the machine throws has another one.
            return "throws." + refusal.getClass().getSimpleName();
        }
    }
}
