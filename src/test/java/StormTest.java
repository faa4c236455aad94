/** The term "Storms" and promises 16 to 18: addStep, clearStorm, storm. */
final class StormTest {
    private static final String NO_COLUMN = "Throws IndexOutOfBoundsException if there is no such column";
    private static final String ENERGY = "Throws IllegalArgumentException if the energy is not between 1 and 60";

    private final Document document;

    private StormTest(Document document) {
        this.document = document;
    }

    static void run(Document document) {
        StormTest test = new StormTest(document);
        test.atMostEight();
        test.allStepsInOrder();
        test.promise16Adds();
        test.promise16Returns();
        test.promise16Throws();
        test.promise16Full();
        test.promise17();
        test.promise18Blows();
        test.promise18Returns();
        test.promise18Throws();
        test.promise18Empty();
    }

    private static Beaches.Setup steps(int... columnsAndEnergies) {
        return b -> {
            for (int i = 0; i + 1 < columnsAndEnergies.length; i += 2) {
                b.addStep(columnsAndEnergies[i], columnsAndEnergies[i + 1]);
            }
        };
    }

    /** What the storm answers, and the heights of the column 2 afterwards. */
    private static Sentence.Call storm(int times) {
        return b -> b.storm(times) + " " + Beaches.heights(b, 2);
    }

    private void atMostEight() {
        Sentence sentence = document.term("Storms",
                "A storm is a list of at most 8 steps, each of which is a column and an energy");
        sentence.answers("eight", Beaches.EIGHT_STEPS, b -> b.clearStorm(), 8);
        sentence.answers("not nine", Beaches.EIGHT_STEPS,
                b -> Sentence.outcome(b, x -> x.addStep(0, 1)) + " " + b.clearStorm(),
                "throws.IllegalStateException 8");
        sentence.answers("the same step eight times", steps(2, 5, 2, 5, 2, 5, 2, 5, 2, 5, 2, 5, 2, 5, 2, 5),
                b -> b.clearStorm(), 8);
        for (int column = 0; column < Beaches.COLUMNS; column++) {
            int its = column;
            sentence.answers("the column " + column, Beaches.all(Beaches.LEVEL, steps(its, 60)), b -> b.storm(1) + " "
                    + Beaches.heights(b, its) + " " + Beaches.heights(b, (its + 1) % 6), "14 1111111 3333333");
        }
        sentence.answers("the least energy", Beaches.all(Beaches.column(2, "01"), steps(2, 1)), storm(1), "0 0100000");
        sentence.answers("the energy that stops", Beaches.all(Beaches.column(2, "3"), steps(2, 3)), storm(1), "0 3000000");
        sentence.answers("the energy that enters", Beaches.all(Beaches.column(2, "3"), steps(2, 4)), storm(1), "0 2001000");
    }

    private void allStepsInOrder() {
        Sentence sentence = document.term("Storms",
                "When a storm blows a number of times, the waves of all its steps come, in their order, "
                + "just as many times");
        // A wave of the energy 4 moves a grain to the row 3; one of the energy 60 takes two grains of each cell.
        sentence.answers("the weak wave first", Beaches.all(Beaches.column(2, "3"), steps(2, 4, 2, 60)), storm(1),
                "3 0000000");
        sentence.answers("the strong wave first", Beaches.all(Beaches.column(2, "3"), steps(2, 60, 2, 4)), storm(1),
                "2 0001000");
        sentence.answers("round after round", Beaches.all(Beaches.column(2, "3"), steps(2, 3, 2, 4)), storm(2), "0 0111000");
        for (int times = 1; times <= 5; times++) {
            Sandpiper one = Beaches.ready(Beaches.all(Beaches.BUSY, steps(3, 9, 4, 60, 2, 5)));
            Sandpiper other = Beaches.ready(Beaches.BUSY);
            one.storm(times);
            for (int time = 0; time < times; time++) {
                other.wave(1, 7);
                other.wave(2, 30);
                other.wave(3, 9);
                other.wave(4, 60);
                other.wave(2, 5);
            }
            sentence.same("as the waves themselves, times " + times, Views.HEIGHTS.of(one), Views.HEIGHTS.of(other));
            sentence.same("as the waves themselves, flows, times " + times, Views.FLOWS.of(one), Views.FLOWS.of(other));
        }
        sentence.answers("the first and the last of eight",
                Beaches.all(Beaches.column(2, "2"), steps(2, 60, 0, 1, 0, 1, 0, 1, 0, 1, 0, 1, 0, 1, 2, 60),
                b -> b.pour(2, 6, 3)), storm(1), "5 0000000");
        sentence.answers("it settles after each wave", Beaches.all(Beaches.column(2, "375"), steps(2, 9)), storm(1),
                "0 3460000");
        sentence.answers("the second wave finds it settled", Beaches.all(Beaches.column(2, "375"), steps(2, 9, 2, 6)),
                storm(1),
                "0 2560000");
    }

    private void promise16Adds() {
        Sentence sentence = document.promise(16, "Adds a step to the end of the storm");
        sentence.answers("to no steps", Beaches.column(2, "3"), b -> b.addStep(2, 60) + " " + b.storm(1), "1 2");
        sentence.answers("to the end", Beaches.all(Beaches.column(2, "3"), steps(2, 60)),
                b -> b.addStep(2, 4) + " " + b.storm(1) + " "
                + Beaches.heights(b, 2), "2 2 0001000");
        sentence.answers("nothing comes yet", Beaches.column(2, "333"),
                b -> b.addStep(2, 60) + " " + Beaches.heights(b, 2) + " " + b.sea(), "1 3330000 0");
        sentence.answers("behind a storm that has blown", Beaches.all(Beaches.column(2, "3"), steps(2, 4), b -> b.storm(1)),
                b -> b.addStep(2, 60) + " " + b.storm(1), "2 3");
        sentence.answers("after clearing it is the only one",
                Beaches.all(Beaches.column(2, "333"), steps(2, 60, 2, 60), b -> b.clearStorm()),
                b -> b.addStep(2, 3) + " " + b.storm(5), "1 0");
    }

    private void promise16Returns() {
        Sentence sentence = document.promise(16, "Returns the number of steps");
        Sandpiper beach = new Sandpiper();
        for (int step = 1; step <= 8; step++) {
            sentence.same("step " + step, beach.addStep(step % 6, 60), step);
        }
        sentence.answers("after clearing eight", Beaches.EIGHT_STEPS, b -> b.clearStorm() * 10 + b.addStep(5, 60), 81);
        sentence.answers("after one that was refused",
                b -> { b.addStep(0, 1); Sentence.outcome(b, x -> x.addStep(0, 61)); }, b -> b.addStep(0, 1), 2);
    }

    private void promise16Throws() {
        Arguments.columns(document.promise(16, NO_COLUMN), (b, column) -> b.addStep(column, 1));
        Sentence sentence = document.promise(16, ENERGY);
        Arguments.numbers(sentence, 1, 60, (b, energy) -> b.addStep(0, energy));
    }

    private void promise16Full() {
        Sentence sentence = document.promise(16, "Throws IllegalStateException if there are 8 steps");
        sentence.refuses("the ninth", Beaches.EIGHT_STEPS, b -> b.addStep(0, 1), Sentence.WRONG_STATE);
        sentence.refuses("the ninth on a busy beach",
                Beaches.all(Beaches.BUSY, steps(1, 1, 2, 2, 3, 3, 4, 4, 5, 5, 0, 6)), b -> b.addStep(5, 60),
                Sentence.WRONG_STATE);
        sentence.answers("not the eighth", steps(0, 1, 0, 1, 0, 1, 0, 1, 0, 1, 0, 1, 0, 1), b -> b.addStep(5, 60), 8);
        sentence.refuses("after a storm", Beaches.all(Beaches.EIGHT_STEPS, b -> b.storm(5)), b -> b.addStep(0, 1),
                Sentence.WRONG_STATE);
        sentence.refuses("again and again", Beaches.all(Beaches.EIGHT_STEPS, b -> Sentence.outcome(b, x -> x.addStep(0, 1))),
                b -> b.addStep(0, 1), Sentence.WRONG_STATE);
        sentence.answers("not after clearing", Beaches.all(Beaches.EIGHT_STEPS, b -> b.clearStorm()),
                b -> b.addStep(0, 1), 1);
        sentence.refuses("full again after clearing",
                Beaches.all(Beaches.EIGHT_STEPS, b -> b.clearStorm(), Beaches.EIGHT_STEPS), b -> b.addStep(0, 1),
                Sentence.WRONG_STATE);
    }

    private void promise17() {
        Sentence removes = document.promise(17, "Removes all steps of the storm");
        removes.refuses("one", b -> { b.addStep(1, 1); b.clearStorm(); }, b -> b.storm(1), Sentence.WRONG_STATE);
        removes.refuses("eight", Beaches.all(Beaches.EIGHT_STEPS, b -> b.clearStorm()), b -> b.storm(1),
                Sentence.WRONG_STATE);
        removes.answers("nothing comes", Beaches.all(Beaches.column(2, "333"), steps(2, 60)),
                b -> b.clearStorm() + " " + Beaches.heights(b, 2), "1 3330000");
        removes.answers("the beach stays", Beaches.BUSY, b -> { b.clearStorm(); return Views.HEIGHTS.of(b); },
                Views.HEIGHTS.of(Beaches.ready(Beaches.BUSY)));
        Sentence returned = document.promise(17, "Returns the number of steps before");
        for (int steps = 0; steps <= 8; steps++) {
            int count = steps;
            returned.answers(steps + " steps", b -> {
                for (int step = 0; step < count; step++) {
                    b.addStep(5, 60);
                }
            }, b -> b.clearStorm() + " " + b.clearStorm(), steps + " 0");
        }
        returned.answers("a storm uses up none", steps(1, 1, 1, 1), b -> { b.storm(5); return b.clearStorm(); }, 2);
    }

    private void promise18Blows() {
        Sentence sentence = document.promise(18, "Lets the storm blow");
        Beaches.Setup one = Beaches.all(Beaches.column(2, "3333333"), steps(2, 60));
        sentence.answers("once", one, storm(1), "14 1111111");
        sentence.answers("twice", one, storm(2), "21 0000000");
        sentence.answers("five times", one, storm(5), "21 0000000");
        sentence.answers("again", one, b -> b.storm(1) + " " + b.storm(1) + " " + b.storm(1), "14 7 0");
        Beaches.Setup eight = Beaches.all(b -> {
            for (int column = 0; column < Beaches.COLUMNS; column++) {
                b.pour(column, 6, 3);
            }
        }, steps(0, 60, 1, 60, 2, 60, 3, 60, 4, 60, 5, 60, 0, 60, 5, 60));
        sentence.answers("all of eight steps", eight, b -> b.storm(1) + " " + b.sand(), "14 4");
        sentence.answers("all of eight steps five times", eight, b -> b.storm(5) + " " + b.sand(), "18 0");
        sentence.answers("on an empty beach", steps(2, 60), b -> b.storm(5) + " " + Views.sums(b), "0 0 0 0 0.0");
    }

    private void promise18Returns() {
        Sentence sentence = document.promise(18, "Returns how many more grains are in the sea than before");
        sentence.answers("none", Beaches.all(Beaches.column(2, "3"), steps(2, 4)), b -> b.storm(1), 0);
        sentence.answers("none, a dam", Beaches.all(Beaches.LEVEL, b -> b.addWall(2, 0, 's'), steps(2, 60)),
                b -> b.storm(5), 0);
        sentence.answers("not what was there before",
                Beaches.all(b -> b.pour(4, 0, 60), b -> b.pour(0, 6, 1), steps(0, 60)),
                b -> { int before = b.sea(); int more = b.storm(1);
                return more == b.sea() - before && before > 0 && more > 0; }, true);
        sentence.answers("not what went there in the storm before", Beaches.all(Beaches.column(2, "3333333"), steps(2, 60)),
                b -> b.storm(1) + " " + b.storm(1) + " " + b.sea(), "14 7 21");
        // The wave drops a grain into the full planted cell by the sea; of what slides one goes into the sea.
        sentence.answers("what slides too", Beaches.all(Beaches.column(2, "1"), Beaches.planted(2, 1, 7),
                Beaches.column(2, "007"), b -> b.pour(1, 1, 3),
                b -> b.pour(1, 0, 3), steps(2, 9)), b -> b.storm(1), 1);
    }

    private void promise18Throws() {
        Sentence sentence = document.promise(18, "Throws IllegalArgumentException if the number is not between 1 and 5");
        Arguments.numbers(sentence, 1, 5, (b, times) -> b.storm(times));
        for (int times : new int[] {0, 6, -1, Integer.MIN_VALUE, Integer.MAX_VALUE}) {
            sentence.refuses(times + " without steps", Beaches.EMPTY, b -> b.storm(times), Sentence.WRONG_ARGUMENT);
            sentence.refuses(times + " with eight steps", Beaches.EIGHT_STEPS, b -> b.storm(times), Sentence.WRONG_ARGUMENT);
        }
    }

    private void promise18Empty() {
        Sentence sentence = document.promise(18, "Throws IllegalStateException if the storm has no steps");
        for (int times = 1; times <= 5; times++) {
            int kept = times;
            sentence.refuses("a new beach, times " + times, Beaches.EMPTY, b -> b.storm(kept), Sentence.WRONG_STATE);
            sentence.refuses("a full beach, times " + times, Beaches.LEVEL, b -> b.storm(kept), Sentence.WRONG_STATE);
        }
        sentence.refuses("cleared", Beaches.all(Beaches.BUSY, b -> b.clearStorm()), b -> b.storm(1), Sentence.WRONG_STATE);
        sentence.refuses("a step that was refused", b -> Sentence.outcome(b, x -> x.addStep(6, 60)), b -> b.storm(1),
                Sentence.WRONG_STATE);
        sentence.answers("not with one step", steps(5, 60), b -> b.storm(1), 0);
    }
}
