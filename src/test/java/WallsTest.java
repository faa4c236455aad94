/** Promises 10 to 12: addWall, removeWall, isClosed. */
final class WallsTest {
    private static final String NO_CELL = "Throws IndexOutOfBoundsException if there is no such cell";
    private static final String NO_SIDE = "Throws IllegalArgumentException if there is no such side";

    /** A wall to the land, one to the east, and one by the sea. */
    private static final Beaches.Setup THREE = b -> {
        b.addWall(2, 2, 'l');
        b.addWall(2, 2, 'e');
        b.addWall(4, 0, 's');
    };

    private final Document document;

    private WallsTest(Document document) {
        this.document = document;
    }

    static void run(Document document) {
        WallsTest test = new WallsTest(document);
        test.promise10Builds();
        test.promise10Returns();
        test.promise10Closed();
        test.promise10CutOff();
        test.promise10CutOffFull();
        test.promise11Removes();
        test.promise11Returns();
        test.promise11None();
        test.promise12();
        test.wrongArguments();
    }

    private void wrongArguments() {
        Arguments.cells(document.promise(10, NO_CELL), (b, column, row) -> b.addWall(column, row, 's'));
        Arguments.sides(document.promise(10, NO_SIDE), (b, column, row, side) -> b.addWall(column, row, side));
        Arguments.cells(document.promise(11, NO_CELL), (b, column, row) -> b.removeWall(column, row, 's'));
        Arguments.sides(document.promise(11, NO_SIDE), (b, column, row, side) -> b.removeWall(column, row, side));
        Arguments.cells(document.promise(12, NO_CELL), (b, column, row) -> b.isClosed(column, row, 's'));
        Arguments.sides(document.promise(12, NO_SIDE), (b, column, row, side) -> b.isClosed(column, row, side));
    }

    private void promise10Builds() {
        Sentence sentence = document.promise(10, "Builds a wall on a side of a cell");
        for (char side : Beaches.SIDES.toCharArray()) {
            sentence.answers("on " + side, b -> b.addWall(2, 3, side), b -> b.isClosed(2, 3, side), true);
            sentence.answers("nothing flows over " + side, b -> b.addWall(2, 3, side),
                    b -> b.pour(2, 3, 4) + " " + b.flow(2, 3, side)
                    + " " + b.height(2, 3), "1 0 1");
        }
        sentence.answers("by the sea", b -> b.addWall(5, 0, 's'), b -> b.pour(5, 0, 4) + " " + b.sea(), "1 0");
        sentence.answers("what has flowed stays counted", b -> b.pour(2, 3, 4),
                b -> b.addWall(2, 3, 'e') * 10 + b.flow(2, 3, 'e'), 11);
        sentence.answers("heights stay", Beaches.LEVEL,
                b -> { b.addWall(2, 3, 'e'); return b.sand() + " " + b.topplings(2, 3); }, "126 0");
    }

    private void promise10Returns() {
        Sentence sentence = document.promise(10, "Returns the number of walls");
        Sandpiper beach = new Sandpiper();
        int due = 1;
        for (int row = 0; row < Beaches.ROWS; row++) {
            for (int column = 0; column < Beaches.COLUMNS - 1; column++) {
                sentence.same("from the first to the last", beach.addWall(column, row, 'e'), due++);
            }
        }
        sentence.same("the last one", due - 1, Beaches.MOST_WALLS);
        sentence.same("after one less", beach.removeWall(2, 2, 'e') * 100 + beach.addWall(3, 2, 'w'), 3435);
        sentence.answers("by the sea", Beaches.EMPTY, b -> b.addWall(0, 0, 's') * 10 + b.addWall(5, 0, 's'), 12);
        sentence.answers("after one that was refused",
                b -> { b.addWall(0, 6, 's'); Sentence.outcome(b, x -> x.addWall(0, 6, 'e')); },
                b -> b.addWall(3, 3, 's'), 2);
        sentence.answers("after one that stands",
                b -> { b.addWall(0, 6, 's'); Sentence.outcome(b, x -> x.addWall(0, 5, 'l')); },
                b -> b.addWall(3, 3, 's'), 2);
    }

    private void promise10Closed() {
        Sentence sentence = document.promise(10, "Throws IllegalStateException if the side is closed");
        sentence.refuses("twice", THREE, b -> b.addWall(2, 2, 'l'), Sentence.WRONG_STATE);
        sentence.refuses("twice, from behind", THREE, b -> b.addWall(2, 3, 's'), Sentence.WRONG_STATE);
        sentence.refuses("twice to the east", THREE, b -> b.addWall(2, 2, 'e'), Sentence.WRONG_STATE);
        sentence.refuses("twice, from the east", THREE, b -> b.addWall(3, 2, 'w'), Sentence.WRONG_STATE);
        sentence.refuses("twice by the sea", THREE, b -> b.addWall(4, 0, 's'), Sentence.WRONG_STATE);
        sentence.refuses("again after it was removed",
                Beaches.all(THREE, b -> b.removeWall(2, 2, 'l'), b -> b.addWall(2, 3, 's')),
                b -> b.addWall(2, 2, 'l'), Sentence.WRONG_STATE);
        sentence.answers("not after it was removed", Beaches.all(THREE, b -> b.removeWall(2, 2, 'l')),
                b -> b.addWall(2, 3, 's'), 3);
        for (int cell = 0; cell < Beaches.CELLS; cell++) {
            for (char side : Beaches.SIDES.toCharArray()) {
                int column = Beaches.columnOf(cell);
                int row = Beaches.rowOf(cell);
                boolean edge = Beaches.isEdge(column, row, side);
                sentence.answers("on an empty beach at " + column + "," + row + " " + side, Beaches.EMPTY,
                        b -> b.addWall(column, row, side), edge ? (Object) "throws.IllegalStateException" : (Object) 1);
                if (edge) {
                    sentence.refuses("the edge at " + column + "," + row + " " + side, THREE,
                            b -> b.addWall(column, row, side),
                            Sentence.WRONG_STATE);
                }
            }
        }
    }

    private void promise10CutOff() {
        Sentence sentence = document.promise(10,
                "Throws UnsupportedOperationException if there would be no way from some cell to the sea");
        sentence.refuses("the last way to the sea", Beaches.DAMS, b -> b.addWall(5, 0, 's'), Sentence.CUT_OFF);
        sentence.answers("the last but one", b -> {
            for (int column = 1; column < 5; column++) {
                b.addWall(column, 0, 's');
            }
        }, b -> b.addWall(0, 0, 's'), 5);
        Beaches.Setup corner = b -> b.addWall(0, 6, 's');
        sentence.refuses("a corner", corner, b -> b.addWall(0, 6, 'e'), Sentence.CUT_OFF);
        sentence.refuses("a corner, from outside", corner, b -> b.addWall(1, 6, 'w'), Sentence.CUT_OFF);
        Beaches.Setup three = b -> { b.addWall(3, 3, 's'); b.addWall(3, 3, 'l'); b.addWall(3, 3, 'w'); };
        sentence.answers("three sides of a cell", three, b -> b.isClosed(3, 3, 'w') + " " + b.isClosed(3, 3, 'e'),
                "true false");
        sentence.refuses("four sides of a cell", three, b -> b.addWall(3, 3, 'e'), Sentence.CUT_OFF);
        sentence.refuses("four sides of a cell, from outside", three, b -> b.addWall(4, 3, 'w'), Sentence.CUT_OFF);
        Beaches.Setup line = b -> {
            for (int column = 0; column < 5; column++) {
                b.addWall(column, 4, 's');
            }
        };
        sentence.refuses("the land", line, b -> b.addWall(5, 3, 'l'), Sentence.CUT_OFF);
        sentence.answers("not the land", line, b -> b.addWall(5, 5, 'l'), 6);
        Beaches.Setup strip = Beaches.all(b -> b.addWall(2, 0, 's'), b -> {
            for (int row = 0; row < Beaches.ROWS - 1; row++) {
                b.addWall(2, row, 'w');
                b.addWall(2, row, 'e');
            }
        });
        sentence.answers("a column with one way out", strip, b -> b.addWall(2, 6, 'w'), 14);
        sentence.refuses("a column without a way out", Beaches.all(strip, b -> b.addWall(2, 6, 'w')),
                b -> b.addWall(3, 6, 'w'), Sentence.CUT_OFF);
        sentence.refuses("sand is no bridge", Beaches.all(corner, Beaches.planted(1, 6, 7)), b -> b.addWall(0, 6, 'e'),
                Sentence.CUT_OFF);
        sentence.answers("sand does not cut off", Beaches.all(corner, Beaches.planted(1, 6, 7)),
                b -> b.addWall(2, 6, 'w'), 2);
        sentence.answers("nor does a beach full of sand", Beaches.PLANTED, b -> b.addWall(0, 6, 's'), 1);
        sentence.answers("not once a way is open again", Beaches.all(Beaches.DAMS, b -> b.removeWall(0, 0, 's')),
                b -> b.addWall(5, 0, 's'), 5);
    }

    /** With 35 walls each side that is open is the only way for some cell. */
    private void promise10CutOffFull() {
        Sentence sentence = document.promise(10,
                "Throws UnsupportedOperationException if there would be no way from some cell to the sea");
        fullOfWalls(sentence, "comb", Beaches.COMB);
        fullOfWalls(sentence, "snake", Beaches.SNAKE);
        sentence.refuses("comb by the sea", Beaches.COMB, b -> b.addWall(0, 0, 's'), Sentence.CUT_OFF);
        sentence.refuses("comb in the land", Beaches.COMB, b -> b.addWall(5, 6, 's'), Sentence.CUT_OFF);
        sentence.refuses("snake by the sea", Beaches.SNAKE, b -> b.addWall(5, 0, 's'), Sentence.CUT_OFF);
        sentence.refuses("snake at its far end", Beaches.SNAKE, b -> b.addWall(0, 6, 's'), Sentence.CUT_OFF);
        sentence.refuses("snake between columns", Beaches.SNAKE, b -> b.addWall(2, 0, 'e'), Sentence.CUT_OFF);
    }

    private static void fullOfWalls(Sentence sentence, String what, Beaches.Setup walls) {
        for (int cell = 0; cell < Beaches.CELLS; cell++) {
            for (char side : Beaches.SIDES.toCharArray()) {
                int column = Beaches.columnOf(cell);
                int row = Beaches.rowOf(cell);
                boolean closed = Beaches.ready(walls).isClosed(column, row, side);
                sentence.answers(what + " at " + column + "," + row + " " + side, walls, b -> b.addWall(column, row, side),
                        "throws." + (closed ? Sentence.WRONG_STATE : Sentence.CUT_OFF));
            }
        }
    }

    private void promise11Removes() {
        Sentence sentence = document.promise(11, "Removes a wall");
        sentence.answers("open from both sides", THREE, b -> { b.removeWall(2, 2, 'l');
            return b.isClosed(2, 2, 'l') + " " + b.isClosed(2, 3, 's'); }, "false false");
        sentence.answers("from behind", THREE, b -> { b.removeWall(2, 3, 's');
            return b.isClosed(2, 2, 'l') + " " + b.isClosed(2, 3, 's'); }, "false false");
        sentence.answers("from the east", THREE, b -> { b.removeWall(3, 2, 'w');
            return b.isClosed(2, 2, 'e') + " " + b.isClosed(3, 2, 'w'); }, "false false");
        sentence.answers("the others stand", THREE, b -> { b.removeWall(2, 2, 'l');
            return b.isClosed(2, 2, 'e') + " " + b.isClosed(4, 0, 's'); }, "true true");
        sentence.answers("the sea is back", THREE,
                b -> { b.removeWall(4, 0, 's'); return b.pour(4, 0, 4) * 10 + b.sea(); }, 11);
        sentence.answers("the cell behind is back", THREE,
                b -> { b.removeWall(2, 2, 'l'); return b.pour(2, 2, 4) * 10 + b.height(2, 3); }, 11);
        sentence.answers("a wave comes through", b -> b.addWall(2, 2, 's'),
                b -> b.wave(2, 60) * 100 + b.removeWall(2, 2, 's') * 10
                + b.wave(2, 60), 207);
        sentence.answers("nothing slides", Beaches.all(Beaches.LEVEL, THREE),
                b -> { b.removeWall(2, 2, 'l'); return b.sand() + " " + b.topplings(2, 2); }, "126 0");
        sentence.answers("what has flowed stays counted",
                b -> { b.pour(2, 3, 4); b.addWall(2, 3, 'e'); b.removeWall(2, 3, 'e'); },
                b -> b.flow(2, 3, 'e') + " " + b.flow(3, 3, 'w'), "1 -1");
    }

    private void promise11Returns() {
        Sentence sentence = document.promise(11, "Returns the number of walls");
        Sandpiper beach = Beaches.ready(Beaches.COMB);
        int due = Beaches.MOST_WALLS;
        for (int row = 0; row < Beaches.ROWS; row++) {
            for (int column = 1; column < Beaches.COLUMNS; column++) {
                sentence.same("from the first to the last", beach.removeWall(column, row, 'w'), --due);
            }
        }
        sentence.same("none is left", due, 0);
        sentence.answers("by the sea", THREE, b -> b.removeWall(4, 0, 's'), 2);
        sentence.answers("built again", THREE, b -> b.removeWall(2, 2, 'l') * 10 + b.addWall(2, 3, 's'), 23);
        sentence.answers("after one that was refused",
                Beaches.all(THREE, b -> Sentence.outcome(b, x -> x.removeWall(0, 0, 's'))),
                b -> b.removeWall(2, 2, 'l'), 2);
    }

    private void promise11None() {
        Sentence sentence = document.promise(11, "Throws NoSuchElementException if there is no wall on this side");
        for (int cell = 0; cell < Beaches.CELLS; cell++) {
            for (char side : Beaches.SIDES.toCharArray()) {
                int column = Beaches.columnOf(cell);
                int row = Beaches.rowOf(cell);
                sentence.answers("no walls at all, at " + column + "," + row + " " + side, Beaches.EMPTY,
                        b -> b.removeWall(column, row, side), "throws.NoSuchElementException");
                if (Beaches.isEdge(column, row, side)) {
                    sentence.refuses("the edge at " + column + "," + row + " " + side, Beaches.COMB,
                            b -> b.removeWall(column, row, side), Sentence.NONE_THERE);
                }
            }
        }
        sentence.refuses("another side of the cell", THREE, b -> b.removeWall(2, 2, 's'), Sentence.NONE_THERE);
        sentence.refuses("the same side of the cell behind", THREE, b -> b.removeWall(2, 3, 'l'), Sentence.NONE_THERE);
        sentence.refuses("beside the wall by the sea", THREE, b -> b.removeWall(3, 0, 's'), Sentence.NONE_THERE);
        sentence.refuses("an open way between all walls", Beaches.SNAKE, b -> b.removeWall(5, 0, 's'), Sentence.NONE_THERE);
        sentence.refuses("twice", Beaches.all(THREE, b -> b.removeWall(2, 2, 'l')), b -> b.removeWall(2, 2, 'l'),
                Sentence.NONE_THERE);
        sentence.refuses("twice, from behind", Beaches.all(THREE, b -> b.removeWall(2, 2, 'l')),
                b -> b.removeWall(2, 3, 's'), Sentence.NONE_THERE);
        sentence.refuses("twice by the sea", Beaches.all(THREE, b -> b.removeWall(4, 0, 's')),
                b -> b.removeWall(4, 0, 's'), Sentence.NONE_THERE);
        sentence.refuses("one that could not be built",
                Beaches.all(Beaches.DAMS, b -> Sentence.outcome(b, x -> x.addWall(5, 0, 's'))),
                b -> b.removeWall(5, 0, 's'), Sentence.NONE_THERE);
    }

    private void promise12() {
        document.promise(12, "Returns true if it is").answers("a wall", THREE, b -> b.isClosed(2, 2, 'l'), true);
        Sentence sentence = document.promise(12, "Tells whether a side of a cell is closed");
        String walls = " 2,2l 2,3s 2,2e 3,2w 4,0s ";
        Sandpiper beach = Beaches.ready(THREE);
        for (int cell = 0; cell < Beaches.CELLS; cell++) {
            for (char side : Beaches.SIDES.toCharArray()) {
                int column = Beaches.columnOf(cell);
                int row = Beaches.rowOf(cell);
                String place = column + "," + row + side;
                boolean due = Beaches.isEdge(column, row, side) || walls.contains(" " + place + " ");
                sentence.same("three walls at " + place, beach.isClosed(column, row, side), due);
            }
        }
        sentence.answers("a wall that is gone", Beaches.all(THREE, b -> b.removeWall(4, 0, 's')),
                b -> b.isClosed(4, 0, 's'), false);
        sentence.answers("a wall that could not be built",
                Beaches.all(Beaches.DAMS, b -> Sentence.outcome(b, x -> x.addWall(5, 0, 's'))),
                b -> b.isClosed(5, 0, 's'), false);
        sentence.answers("sand does not close", Beaches.PLANTED, b -> b.isClosed(2, 2, 'l') || b.isClosed(2, 0, 's'), false);
        sentence.changesNothing("asked", Beaches.BUSY, b -> b.isClosed(2, 2, 'l'));
    }
}
