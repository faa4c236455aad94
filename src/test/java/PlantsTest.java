/** Promises 8, 9 and 13: plant, uproot, isPlanted. */
final class PlantsTest {
    private static final String NO_CELL = "Throws IndexOutOfBoundsException if there is no such cell";

    private final Document document;

    private PlantsTest(Document document) {
        this.document = document;
    }

    static void run(Document document) {
        PlantsTest test = new PlantsTest(document);
        test.promise8Plants();
        test.promise8Returns();
        test.promise8Throws();
        test.promise9TakesAway();
        test.promise9Settles();
        test.promise9Returns();
        test.promise9Throws();
        test.promise13();
    }

    private void promise8Plants() {
        Sentence sentence = document.promise(8, "Plants a cell");
        sentence.answers("it is planted", b -> b.plant(1, 4), b -> b.isPlanted(1, 4), true);
        sentence.answers("it alone", b -> b.plant(1, 4), b -> plantedCells(b), 1);
        sentence.answers("its sand stays", b -> b.pour(1, 4, 3), b -> b.plant(1, 4) * 10 + b.height(1, 4), 13);
        sentence.answers("it holds 7", b -> { b.pour(1, 4, 3); b.plant(1, 4); },
                b -> b.pour(1, 4, 4) * 10 + b.height(1, 4), 7);
        sentence.answers("it does not hold 8", b -> { b.pour(1, 4, 3); b.plant(1, 4); },
                b -> b.pour(1, 4, 5) * 10 + b.height(1, 4), 14);
        sentence.answers("nothing topples", Beaches.LEVEL,
                b -> { b.plant(1, 4); return b.topplings(1, 4) + " " + b.sand(); }, "0 126");
        sentence.answers("all cells", Beaches.PLANTED, b -> plantedCells(b), 42);
    }

    private static int plantedCells(Sandpiper beach) {
        int count = 0;
        for (int cell = 0; cell < Beaches.CELLS; cell++) {
            count += beach.isPlanted(Beaches.columnOf(cell), Beaches.rowOf(cell)) ? 1 : 0;
        }
        return count;
    }

    private void promise8Returns() {
        Sentence sentence = document.promise(8, "Returns the number of planted cells");
        Sandpiper beach = new Sandpiper();
        for (int cell = 0; cell < Beaches.CELLS; cell++) {
            int due = cell + 1;
            sentence.same("cell after cell", beach.plant(Beaches.columnOf(cell), Beaches.rowOf(cell)), due);
        }
        sentence.answers("one less, one more", Beaches.PLANTED, b -> { b.uproot(3, 3); return b.plant(3, 3); }, 42);
        sentence.answers("after the only one is gone", b -> { b.plant(0, 0); b.uproot(0, 0); }, b -> b.plant(5, 6), 1);
        sentence.answers("after one that was refused", b -> { b.plant(0, 0); Sentence.outcome(b, x -> x.plant(0, 0)); },
                b -> b.plant(5, 6), 2);
    }

    private void promise8Throws() {
        Arguments.cells(document.promise(8, NO_CELL), (b, column, row) -> b.plant(column, row));
        Sentence sentence = document.promise(8, "Throws IllegalStateException if it is planted");
        sentence.refuses("twice", b -> b.plant(2, 2), b -> b.plant(2, 2), Sentence.WRONG_STATE);
        sentence.refuses("with sand", Beaches.planted(2, 2, 7), b -> b.plant(2, 2), Sentence.WRONG_STATE);
        sentence.refuses("planted again after uprooting", b -> { b.plant(2, 2); b.uproot(2, 2); b.plant(2, 2); },
                b -> b.plant(2, 2), Sentence.WRONG_STATE);
        sentence.answers("not after uprooting", b -> { b.plant(2, 2); b.uproot(2, 2); }, b -> b.plant(2, 2), 1);
        sentence.answers("not if others are", b -> { b.plant(2, 2); b.plant(1, 3); },
                b -> b.plant(2, 3) * 10 + b.plant(3, 2), 34);
        for (int cell = 0; cell < Beaches.CELLS; cell++) {
            int column = Beaches.columnOf(cell);
            int row = Beaches.rowOf(cell);
            sentence.answers("all are, at " + column + "," + row, Beaches.PLANTED, b -> b.plant(column, row),
                    "throws.IllegalStateException");
        }
        sentence.refuses("all are", Beaches.PLANTED, b -> b.plant(5, 6), Sentence.WRONG_STATE);
    }

    private void promise9TakesAway() {
        Sentence sentence = document.promise(9, "Takes the plants of a cell away");
        sentence.answers("it is bare", b -> b.plant(2, 3), b -> { b.uproot(2, 3); return b.isPlanted(2, 3); }, false);
        sentence.answers("it holds 3", b -> { b.plant(2, 3); b.uproot(2, 3); }, b -> b.pour(2, 3, 3), 0);
        sentence.answers("it does not hold 4", b -> { b.plant(2, 3); b.uproot(2, 3); }, b -> b.pour(2, 3, 4), 1);
        sentence.answers("the others stay planted", Beaches.PLANTED, b -> { b.uproot(0, 0); return plantedCells(b); }, 41);
        sentence.answers("the last one", b -> b.plant(5, 6), b -> { b.uproot(5, 6); return plantedCells(b); }, 0);
    }

    private void promise9Settles() {
        Sentence sentence = document.promise(9, "then the beach settles");
        for (int height = 0; height <= 7; height++) {
            int grains = height;
            sentence.answers("with " + height, Beaches.planted(2, 3, grains), b -> {
                b.uproot(2, 3);
                return b.height(2, 3) + " " + b.height(2, 2) + " " + b.flow(2, 3, 'e') + " " + b.topplings(2, 3);
            }, grains < 4 ? grains + " 0 0 0" : grains - 4 + " 1 1 1");
        }
        sentence.answers("into the sea", Beaches.planted(2, 0, 7), b -> { b.uproot(2, 0); return b.sea(); }, 1);
        sentence.answers("behind walls it slides on", b -> { Beaches.planted(2, 3, 7).prepare(b); b.addWall(2, 3, 's');
            b.addWall(2, 3, 'w'); b.addWall(2, 3, 'e'); }, b -> b.uproot(2, 3) + " " + Beaches.heights(b, 2), "6 0003110");
    }

    private void promise9Returns() {
        Sentence sentence = document.promise(9, "Returns how often cells topple");
        sentence.answers("an empty cell", b -> b.plant(2, 3), b -> b.uproot(2, 3), 0);
        sentence.answers("3 grains", Beaches.planted(2, 3, 3), b -> b.uproot(2, 3), 0);
        sentence.answers("4 grains", Beaches.planted(2, 3, 4), b -> b.uproot(2, 3), 1);
        sentence.answers("7 grains", Beaches.planted(2, 3, 7), b -> b.uproot(2, 3), 1);
        sentence.answers("the cell beside too", b -> { Beaches.planted(2, 3, 4).prepare(b); b.pour(3, 3, 3); },
                b -> b.uproot(2, 3), 2);
        sentence.answers("this call alone", b -> { b.pour(0, 6, 60); b.plant(2, 3); }, b -> b.uproot(2, 3), 0);
    }

    private void promise9Throws() {
        Arguments.cells(document.promise(9, NO_CELL), (b, column, row) -> b.uproot(column, row));
        Sentence sentence = document.promise(9, "Throws IllegalStateException if it is not planted");
        sentence.refuses("never planted", Beaches.EMPTY, b -> b.uproot(0, 0), Sentence.WRONG_STATE);
        sentence.refuses("the last cell", Beaches.LEVEL, b -> b.uproot(5, 6), Sentence.WRONG_STATE);
        sentence.refuses("others are planted", Beaches.BUSY, b -> b.uproot(2, 2), Sentence.WRONG_STATE);
        sentence.refuses("twice", b -> { b.plant(2, 3); b.uproot(2, 3); }, b -> b.uproot(2, 3), Sentence.WRONG_STATE);
        sentence.refuses("the only one that is not", Beaches.all(Beaches.PLANTED, b -> b.uproot(3, 3)), b -> b.uproot(3, 3),
                Sentence.WRONG_STATE);
        for (int cell = 0; cell < Beaches.CELLS; cell++) {
            int column = Beaches.columnOf(cell);
            int row = Beaches.rowOf(cell);
            sentence.answers("none is, at " + column + "," + row, Beaches.EMPTY, b -> b.uproot(column, row),
                    "throws.IllegalStateException");
        }
    }

    private void promise13() {
        document.promise(13, "Returns true if it is").answers("planted", b -> b.plant(2, 2), b -> b.isPlanted(2, 2), true);
        Sentence sentence = document.promise(13, "Tells whether a cell is planted");
        Sandpiper all = Beaches.ready(Beaches.PLANTED);
        for (int cell = 0; cell < Beaches.CELLS; cell++) {
            int column = Beaches.columnOf(cell);
            int row = Beaches.rowOf(cell);
            String where = " at " + column + "," + row;
            sentence.answers("none" + where, Beaches.EMPTY, b -> b.isPlanted(column, row), false);
            sentence.answers("the only one" + where, b -> b.plant(column, row), b -> b.isPlanted(column, row), true);
            sentence.same("all" + where, all.isPlanted(column, row), true);
        }
        sentence.answers("uprooted", b -> { b.plant(0, 0); b.uproot(0, 0); }, b -> b.isPlanted(0, 0), false);
        sentence.answers("its column and row", b -> b.plant(2, 3), b -> b.isPlanted(2, 3) + " " + b.isPlanted(3, 2),
                "true false");
        sentence.changesNothing("asked", Beaches.BUSY, b -> b.isPlanted(2, 1));
        Arguments.cells(document.promise(13, NO_CELL), (b, column, row) -> b.isPlanted(column, row));
    }
}
