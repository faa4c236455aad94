/** Promises 2 to 7: pour, dig, and what would topple and be lost. */
final class SandTest {
    private interface Trial {
        int answer(Sandpiper beach, int column, int row, int grains);
    }

    private static final String NO_CELL = "Throws IndexOutOfBoundsException if there is no such cell";
    private static final String FROM_1_TO_60 = "Throws IllegalArgumentException if the number is not between 1 and 60";

    private final Document document;

    private SandTest(Document document) {
        this.document = document;
    }

    static void run(Document document) {
        SandTest test = new SandTest(document);
        test.promise2Pours();
        test.promise2Settles();
        test.promise2Returns();
        test.promise2Throws();
        test.promise3Digs();
        test.promise3Returns();
        test.promise3Throws();
        test.promise3Fewer();
        test.promise4();
        test.promise5();
        test.promise6();
        test.promise7();
    }

    private void promise2Pours() {
        Sentence sentence = document.promise(2, "Pours grains on a cell");
        for (int cell = 0; cell < Beaches.CELLS; cell++) {
            int column = Beaches.columnOf(cell);
            int row = Beaches.rowOf(cell);
            sentence.answers("3 at " + column + "," + row + " alone", b -> b.pour(column, row, 3),
                    b -> b.height(column, row) + " " + b.sand() + " " + b.sea() + " " + b.brought(), "3 3 0 3");
        }
        sentence.answers("the least, 1", b -> b.pour(3, 2, 1), b -> b.height(3, 2) * 10 + b.brought(), 11);
        sentence.answers("the most, 60", b -> b.pour(3, 2, 60), b -> b.sand() + b.sea() + " " + b.brought(), "60 60");
        sentence.answers("on others", b -> b.pour(3, 2, 1), b -> b.pour(3, 2, 2) * 10 + b.height(3, 2), 3);
        sentence.answers("on plants", b -> b.plant(3, 2), b -> b.pour(3, 2, 7) * 10 + b.height(3, 2), 7);
        sentence.answers("on a full beach", Beaches.LEVEL, b -> { b.pour(0, 6, 60); return b.sand() + b.sea(); }, 186);
        sentence.answers("on a beach full of plants", Beaches.PLANTED,
                b -> { b.pour(0, 6, 60); return b.sand() + b.sea(); }, 354);
    }

    private void promise2Settles() {
        Sentence sentence = document.promise(2, "then the beach settles");
        sentence.answers("3 stay", b -> b.pour(2, 3, 3), b -> b.height(2, 3) + " " + b.height(2, 2), "3 0");
        sentence.answers("4 slide", b -> b.pour(2, 3, 4), b -> b.height(2, 3) + " " + b.height(2, 2), "0 1");
        sentence.answers("planted, 7 stay", Beaches.planted(2, 3, 7), b -> b.height(2, 3) + " " + b.height(2, 2), "7 0");
        sentence.answers("planted, 8 slide", Beaches.planted(2, 3, 8), b -> b.height(2, 3) + " " + b.height(2, 2), "4 1");
        sentence.answers("planted, 11 slide once", Beaches.planted(2, 3, 11), b -> b.height(2, 3) + " " + b.height(2, 2),
                "7 1");
        sentence.answers("planted, 12 slide twice", Beaches.planted(2, 3, 12),
                b -> b.height(2, 3) + " " + b.height(2, 2), "4 2");
        sentence.answers("the cell beside slides too", b -> { b.pour(3, 3, 3); b.pour(2, 3, 4); },
                b -> b.height(2, 3) + " " + b.height(3, 3) + " " + b.height(4, 3), "1 0 1");
    }

    private void promise2Returns() {
        Sentence sentence = document.promise(2, "Returns how often cells topple");
        sentence.answers("never", Beaches.EMPTY, b -> b.pour(2, 3, 3), 0);
        sentence.answers("once", Beaches.EMPTY, b -> b.pour(2, 3, 4), 1);
        sentence.answers("two cells", b -> b.pour(3, 3, 3), b -> b.pour(2, 3, 4), 2);
        sentence.answers("one cell again and again", Beaches.EMPTY, b -> b.pour(2, 3, 20), 10);
        sentence.answers("the most grains in a corner", Beaches.EMPTY, b -> b.pour(0, 6, 60), 253);
        sentence.answers("this call alone", b -> b.pour(0, 6, 60), b -> b.pour(5, 0, 3), 0);
        sentence.answers("a full beach", Beaches.LEVEL, b -> topplesLikePlain(b), true);
        sentence.answers("the longest way to the sea", Beaches.SNAKE, b -> b.pour(0, 6, 60), 3990);
        Sandpiper beach = new Sandpiper();
        int due = beach.pour(0, 6, 60) + beach.pour(5, 5, 60) + beach.pour(3, 0, 60);
        int sum = 0;
        for (int cell = 0; cell < Beaches.CELLS; cell++) {
            sum += beach.topplings(Beaches.columnOf(cell), Beaches.rowOf(cell));
        }
        sentence.same("the sum of all topplings", sum, due);
    }

    /** One grain more on each cell of a level beach in turn, on this beach and on the plain one. */
    private static boolean topplesLikePlain(Sandpiper beach) {
        PlainBeach plain = new PlainBeach();
        for (int cell = 0; cell < Beaches.CELLS; cell++) {
            plain.pour(Beaches.columnOf(cell), Beaches.rowOf(cell), 3);
        }
        boolean same = true;
        for (int cell = 0; cell < Beaches.CELLS; cell++) {
            int column = Beaches.columnOf(cell);
            int row = Beaches.rowOf(cell);
            same &= beach.pour(column, row, 1) == plain.pour(column, row, 1);
        }
        return same;
    }

    private void promise2Throws() {
        Arguments.cells(document.promise(2, NO_CELL), (b, column, row) -> b.pour(column, row, 1));
        Arguments.numbers(document.promise(2, FROM_1_TO_60), 1, 60, (b, grains) -> b.pour(0, 0, grains));
    }

    private void promise3Digs() {
        Sentence sentence = document.promise(3, "Digs grains out of a cell");
        Beaches.Setup three = b -> b.pour(4, 5, 3);
        sentence.answers("one of three", three, b -> { b.dig(4, 5, 1); return b.height(4, 5); }, 2);
        sentence.answers("all of three", three, b -> { b.dig(4, 5, 3); return b.height(4, 5) + b.sand(); }, 0);
        sentence.answers("none of other cells", Beaches.LEVEL, b -> { b.dig(4, 5, 3); return b.sand(); }, 123);
        sentence.answers("not into the sea", b -> b.pour(4, 0, 3),
                b -> { b.dig(4, 0, 3); return b.sea() + " " + b.flow(4, 0, 's'); }, "0 0");
        sentence.answers("all that a full beach has", Beaches.PLANTED, b -> {
            for (int cell = 0; cell < Beaches.CELLS; cell++) {
                b.dig(Beaches.columnOf(cell), Beaches.rowOf(cell), 7);
            }
            return b.sand() + " " + b.sea() + " " + b.brought();
        }, "0 0 0");
    }

    private void promise3Returns() {
        Sentence sentence = document.promise(3, "Returns the height of the cell");
        for (int height = 1; height <= 7; height++) {
            int grains = height;
            for (int dug = 1; dug <= height; dug++) {
                int taken = dug;
                sentence.answers(dug + " of " + height, Beaches.planted(4, 5, grains), b -> b.dig(4, 5, taken),
                        grains - taken);
            }
        }
        sentence.answers("of bare ground", b -> b.pour(0, 0, 3), b -> b.dig(0, 0, 2), 1);
    }

    private void promise3Throws() {
        Arguments.cells(document.promise(3, NO_CELL), (b, column, row) -> b.dig(column, row, 1));
        Sentence sentence = document.promise(3, FROM_1_TO_60);
        Arguments.numbers(sentence, 1, 60, (b, grains) -> b.dig(2, 1, grains));
        sentence.refuses("0 of none", Beaches.EMPTY, b -> b.dig(0, 0, 0), Sentence.WRONG_ARGUMENT);
        sentence.refuses("61 of none", Beaches.EMPTY, b -> b.dig(0, 0, 61), Sentence.WRONG_ARGUMENT);
    }

    private void promise3Fewer() {
        Sentence sentence = document.promise(3, "Throws NoSuchElementException if it has fewer grains");
        for (int height = 0; height <= 7; height++) {
            Beaches.Setup setup = Beaches.planted(4, 5, height);
            for (int grains : new int[] {height + 1, height + 2, 60}) {
                sentence.refuses(grains + " of " + height, setup, b -> b.dig(4, 5, grains), Sentence.NONE_THERE);
            }
            int all = height;
            sentence.answers(height + " of " + height, setup, b -> all == 0 ? 0 : b.dig(4, 5, all), 0);
        }
        for (int cell = 0; cell < Beaches.CELLS; cell++) {
            int column = Beaches.columnOf(cell);
            int row = Beaches.rowOf(cell);
            sentence.answers("none at " + column + "," + row, Beaches.EMPTY, b -> b.dig(column, row, 1),
                    "throws.NoSuchElementException");
        }
        sentence.refuses("when all is dug out", b -> { b.pour(4, 5, 3); b.dig(4, 5, 3); }, b -> b.dig(4, 5, 1),
                Sentence.NONE_THERE);
        sentence.refuses("when others have more", Beaches.all(Beaches.PLANTED, b -> b.dig(4, 5, 6)), b -> b.dig(4, 5, 2),
                Sentence.NONE_THERE);
    }

    private void promise4() {
        document.promise(4, "Returns how often cells would topple").same("none", new Sandpiper().topplesIf(0, 0, 3), 0);
        Sentence sentence = document.promise(4,
                "Returns how often cells would topple if grains were poured on a cell, found with a "
                + "queue of cells");
        topples(sentence, Sandpiper::topplesIf);
        Arguments.cells(document.promise(4, NO_CELL), (b, column, row) -> b.topplesIf(column, row, 1));
        Arguments.numbers(document.promise(4, FROM_1_TO_60), 1, 60, (b, grains) -> b.topplesIf(0, 0, grains));
    }

    private void promise5() {
        document.promise(5, "Returns how often cells would topple").same("none",
                new Sandpiper().topplesIfBySweeps(0, 0, 3), 0);
        Sentence sentence = document.promise(5, "Returns the same number, found by sweeps from the land to the sea");
        topples(sentence, Sandpiper::topplesIfBySweeps);
        Arguments.cells(document.promise(5, NO_CELL), (b, column, row) -> b.topplesIfBySweeps(column, row, 1));
        Arguments.numbers(document.promise(5, FROM_1_TO_60), 1, 60, (b, grains) -> b.topplesIfBySweeps(0, 0, grains));
    }

    private void promise6() {
        document.promise(6, "Returns the number of grains").same("none", new Sandpiper().lostIf(0, 0, 3), 0);
        Sentence sentence = document.promise(6,
                "Returns how many grains would go into the sea if grains were poured on a cell, found "
                + "with a queue of cells");
        lost(sentence, Sandpiper::lostIf);
        Arguments.cells(document.promise(6, NO_CELL), (b, column, row) -> b.lostIf(column, row, 1));
        Arguments.numbers(document.promise(6, FROM_1_TO_60), 1, 60, (b, grains) -> b.lostIf(0, 0, grains));
    }

    private void promise7() {
        document.promise(7, "Returns the number of grains").same("none", new Sandpiper().lostIfBySweeps(0, 0, 3), 0);
        Sentence sentence = document.promise(7, "Returns the same number, found by sweeps from the land to the sea");
        lost(sentence, Sandpiper::lostIfBySweeps);
        Arguments.cells(document.promise(7, NO_CELL), (b, column, row) -> b.lostIfBySweeps(column, row, 1));
        Arguments.numbers(document.promise(7, FROM_1_TO_60), 1, 60, (b, grains) -> b.lostIfBySweeps(0, 0, grains));
    }

    private static void topples(Sentence sentence, Trial trial) {
        sentence.answers("1 grain on an empty beach", Beaches.EMPTY, b -> trial.answer(b, 0, 0, 1), 0);
        sentence.answers("3 grains on an empty beach", Beaches.EMPTY, b -> trial.answer(b, 0, 0, 3), 0);
        sentence.answers("4 grains on an empty beach", Beaches.EMPTY, b -> trial.answer(b, 0, 0, 4), 1);
        sentence.answers("1 grain on 3", b -> b.pour(0, 0, 3), b -> trial.answer(b, 0, 0, 1), 1);
        sentence.answers("7 grains on plants", b -> b.plant(3, 3), b -> trial.answer(b, 3, 3, 7), 0);
        sentence.answers("8 grains on plants", b -> b.plant(3, 3), b -> trial.answer(b, 3, 3, 8), 1);
        sentence.answers("20 grains", Beaches.EMPTY, b -> trial.answer(b, 2, 3, 20), 10);
        sentence.answers("60 grains in a corner", Beaches.EMPTY, b -> trial.answer(b, 0, 6, 60), 253);
        sentence.answers("60 grains and the longest way", Beaches.SNAKE, b -> trial.answer(b, 0, 6, 60), 3990);
        sentence.answers("the second time", Beaches.SNAKE, b -> trial.answer(b, 0, 6, 60) - trial.answer(b, 0, 6, 60), 0);
        trials(sentence, trial, (beach, column, row, grains) -> beach.pour(column, row, grains));
    }

    private static void lost(Sentence sentence, Trial trial) {
        sentence.answers("3 grains by the sea", Beaches.EMPTY, b -> trial.answer(b, 0, 0, 3), 0);
        sentence.answers("4 grains by the sea", Beaches.EMPTY, b -> trial.answer(b, 0, 0, 4), 1);
        sentence.answers("1 grain on 3 by the sea", b -> b.pour(0, 0, 3), b -> trial.answer(b, 0, 0, 1), 1);
        sentence.answers("7 grains on plants by the sea", b -> b.plant(3, 0), b -> trial.answer(b, 3, 0, 7), 0);
        sentence.answers("8 grains on plants by the sea", b -> b.plant(3, 0), b -> trial.answer(b, 3, 0, 8), 1);
        sentence.answers("4 grains in the row 1", Beaches.EMPTY, b -> trial.answer(b, 0, 1, 4), 0);
        sentence.answers("60 grains far from the sea", Beaches.EMPTY, b -> trial.answer(b, 3, 3, 60), 0);
        sentence.answers("60 grains by the sea", Beaches.EMPTY, b -> trial.answer(b, 3, 0, 60), 30);
        sentence.answers("behind a dam", b -> b.addWall(3, 0, 's'), b -> trial.answer(b, 3, 0, 4), 0);
        sentence.answers("not what was lost before", b -> b.pour(3, 0, 60), b -> trial.answer(b, 5, 6, 3), 0);
        sentence.answers("the second time", b -> b.pour(3, 0, 60),
                b -> trial.answer(b, 2, 0, 60) - trial.answer(b, 2, 0, 60), 0);
        trials(sentence, trial, (beach, column, row, grains) -> {
            int before = beach.sea();
            beach.pour(column, row, grains);
            return beach.sea() - before;
        });
    }

    /** What would be is what is, once the grains are poured; and until then nothing changes. */
    private static void trials(Sentence sentence, Trial trial, Trial deed) {
        Beaches.Setup[] setups = {Beaches.EMPTY, Beaches.BUSY, Beaches.LEVEL, Beaches.PLANTED, Beaches.SNAKE, Beaches.DAMS};
        for (int i = 0; i < setups.length; i++) {
            Beaches.Setup setup = setups[i];
            for (int grains : new int[] {1, 4, 8, 59, 60}) {
                for (int cell = 0; cell < Beaches.CELLS; cell += grains == 1 ? 1 : 3) {
                    int column = Beaches.columnOf(cell);
                    int row = Beaches.rowOf(cell);
                    int due = deed.answer(Beaches.ready(setup), column, row, grains);
                    sentence.answers("as poured, beach " + i + " at " + column + "," + row + " with " + grains, setup,
                            b -> trial.answer(b, column, row, grains), due);
                }
            }
            sentence.changesNothing("60 grains, beach " + i, setup, b -> trial.answer(b, 3, 0, 60));
            sentence.changesNothing("1 grain, beach " + i, setup, b -> trial.answer(b, 0, 6, 1));
        }
    }
}
