/** "What it is", the term "Beach" with its sides and walls, the term "Exceptions", and promise 1. */
final class BeachTest {
    private final Document document;

    private BeachTest(Document document) {
        this.document = document;
    }

    static void run(Document document) {
        BeachTest test = new BeachTest(document);
        test.life();
        test.columnsAndRows();
        test.firstHeights();
        test.fourSides();
        test.towards();
        test.seaBehindRow0();
        test.edges();
        test.otherSides();
        test.commonSides();
        test.wayToTheSea();
        test.throwingChangesNothing();
        test.firstListedIsThrown();
        test.newObject();
    }

    private void life() {
        Sentence sentence = document.start("An object is used for at most 512 calls after it has been made");
        Sandpiper beach = Beaches.ready(Beaches.SNAKE);
        int topples = 0;
        int poured = 512 - Beaches.MOST_WALLS - 4;
        for (int time = 0; time < poured; time++) {
            topples += beach.pour(0, 6, 60);
        }
        sentence.same("brought, call 509", beach.brought(), 60 * poured);
        sentence.same("sand and sea, calls 510 and 511", beach.sand() + beach.sea(), 60 * poured);
        int there = beach.topplings(0, 6);
        sentence.same("topplings, call 512 of " + there, there > 10000 && there < topples, true);
        Sandpiper refused = new Sandpiper();
        for (int time = 0; time < 511; time++) {
            Sentence.outcome(refused, b -> b.pour(6, 0, 1));
        }
        sentence.same("after 511 refused calls", refused.pour(2, 3, 20), 10);
    }

    private void columnsAndRows() {
        Sentence sentence = document.term("Beach", "The beach has 6 columns, numbered from 0, along the shore, and 7 rows, "
                + "numbered from 0, from the sea to the land");
        for (int column = -2; column < 9; column++) {
            for (int row = -2; row < 9; row++) {
                int c = column;
                int r = row;
                boolean inside = column >= 0 && column <= 5 && row >= 0 && row <= 6;
                sentence.answers(column + "," + row, b -> b.pour(0, 0, 1), b -> b.height(c, r),
                        inside ? (Object) (c == 0 && r == 0 ? 1 : 0) : "throws.IndexOutOfBoundsException");
            }
        }
        sentence.answers("one grain on each of 42", Beaches.EMPTY, b -> {
            for (int cell = 0; cell < Beaches.CELLS; cell++) {
                b.pour(Beaches.columnOf(cell), Beaches.rowOf(cell), 1);
            }
            return b.sand() + " " + b.floodedByRounds(1) + " " + b.flooded(2);
        }, "42 0 42");
        sentence.answers("the row 0 is by the sea", b -> b.pour(3, 0, 4), b -> b.sea(), 1);
        sentence.answers("the row 6 is in the land", b -> b.pour(3, 6, 4), b -> b.sea() + 10 * b.height(3, 6), 10);
    }

    private void firstHeights() {
        Sentence sentence = document.term("Beach", "Each cell has a number of grains, its height, at first 0");
        for (int cell = 0; cell < Beaches.CELLS; cell++) {
            int column = Beaches.columnOf(cell);
            int row = Beaches.rowOf(cell);
            sentence.answers("at first at " + column + "," + row, Beaches.EMPTY, b -> b.height(column, row), 0);
            sentence.answers("a grain at " + column + "," + row, b -> b.pour(column, row, 1),
                    b -> b.height(column, row) * 10 + b.sand(), 11);
        }
    }

    private void fourSides() {
        Sentence sentence = document.term("Beach", "A cell has four sides");
        Arguments.sides(sentence, (b, column, row, side) -> b.isClosed(column, row, side));
    }

    private void towards() {
        Sentence sentence = document.term("Beach", "'s' towards the sea, 'l' towards the land, 'w' towards the column with "
                + "the next lower number, and 'e' towards the one with the next higher number");
        int[][] beside = {{2, 2}, {2, 4}, {1, 3}, {3, 3}};
        for (int i = 0; i < 4; i++) {
            int[] there = beside[i];
            char side = Beaches.SIDES.charAt(i);
            char back = "lsew".charAt(i);
            sentence.answers("what is behind " + side, b -> b.addWall(2, 3, side),
                    b -> b.isClosed(there[0], there[1], back), true);
            sentence.answers("what flows over " + side, b -> b.pour(2, 3, 4),
                    b -> b.flow(2, 3, side) + " " + b.flow(there[0], there[1], back) + " " + b.height(there[0], there[1]),
                    "1 -1 1");
        }
    }

    private void seaBehindRow0() {
        Sentence sentence = document.term("Beach", "The cells of the row 0 have the sea behind their side 's'");
        for (int column = 0; column < Beaches.COLUMNS; column++) {
            int c = column;
            sentence.answers("column " + c, b -> b.pour(c, 0, 4), b -> b.sea() * 10 + b.flow(c, 0, 's'), 11);
            sentence.answers("not the row 1, column " + c, b -> b.pour(c, 1, 4),
                    b -> b.sea() + " " + b.height(c, 0) + " " + b.flow(c, 1, 's'), "0 1 1");
            sentence.answers("not the row 6, column " + c, b -> b.pour(c, 6, 4), b -> b.sea(), 0);
        }
    }

    private void edges() {
        Sentence sentence = document.term("Beach", "A side is closed if there is a wall on it, or if it is the side 'l' in "
                + "the row 6, 'w' in the column 0 or 'e' in the column 5");
        Sandpiper beach = new Sandpiper();
        for (int column = 0; column < Beaches.COLUMNS; column++) {
            sentence.same("l in the row 6, column " + column, beach.isClosed(column, 6, 'l'), true);
            sentence.same("l in the row 5, column " + column, beach.isClosed(column, 5, 'l'), false);
        }
        for (int row = 0; row < Beaches.ROWS; row++) {
            sentence.same("w in the column 0, row " + row, beach.isClosed(0, row, 'w'), true);
            sentence.same("w in the column 1, row " + row, beach.isClosed(1, row, 'w'), false);
            sentence.same("e in the column 5, row " + row, beach.isClosed(5, row, 'e'), true);
            sentence.same("e in the column 4, row " + row, beach.isClosed(4, row, 'e'), false);
        }
        for (char side : Beaches.SIDES.toCharArray()) {
            sentence.answers("a wall on " + side, b -> b.addWall(3, 4, side), b -> b.isClosed(3, 4, side), true);
            sentence.answers("no wall on " + side, Beaches.EMPTY, b -> b.isClosed(3, 4, side), false);
        }
        sentence.answers("a wall by the sea", b -> b.addWall(0, 0, 's'), b -> b.isClosed(0, 0, 's'), true);
    }

    private void otherSides() {
        Sentence sentence = document.term("Beach", "the other sides are open");
        Sandpiper beach = new Sandpiper();
        String closed = Beaches.ofAllSides((column, row, side) -> beach.isClosed(column, row, side));
        sentence.same("20 of 168 are closed", closed.split("true", -1).length - 1, 20);
        sentence.same("148 of 168 are open", closed.split("false", -1).length - 1, 148);
        Sandpiper walled = Beaches.ready(Beaches.COMB);
        String more = Beaches.ofAllSides((column, row, side) -> walled.isClosed(column, row, side));
        sentence.same("between 6 ways alone", more.split("false", -1).length - 1, 6 * 13);
    }

    /** Each of the 77 places for a wall, built from its one side and taken away from its other. */
    private void commonSides() {
        Sentence sentence = document.term("Beach", "A wall stands on the common side of two cells, or between a cell of the "
                + "row 0 and the sea, and closes it from both");
        int places = 0;
        for (int cell = 0; cell < Beaches.CELLS; cell++) {
            for (char side : Beaches.SIDES.toCharArray()) {
                int column = Beaches.columnOf(cell);
                int row = Beaches.rowOf(cell);
                if (!Beaches.isEdge(column, row, side)) {
                    places++;
                    commonSide(sentence, column, row, side);
                }
            }
        }
        sentence.same("there are 71 common sides and 6 by the sea", places, 2 * 71 + 6);
    }

    private static void commonSide(Sentence sentence, int column, int row, char side) {
        String where = column + "," + row + " " + side;
        int there = Beaches.columnBeside(column, side);
        int thereRow = Beaches.rowBeside(row, side);
        boolean bySea = !Beaches.isInside(there, thereRow);
        Beaches.Setup wall = b -> b.addWall(column, row, side);
        sentence.answers("closed from here, " + where, wall, b -> b.isClosed(column, row, side), true);
        sentence.answers("no other side is closed, " + where, wall, b -> Beaches.ofAllSides(
                (c, r, s) -> b.isClosed(c, r, s)).split("true", -1).length - 1, bySea ? 21 : 22);
        sentence.answers("nothing goes over it, " + where, wall, b -> {
            b.pour(column, row, 4);
            return b.flow(column, row, side) + " " + b.sea() + " " + (bySea ? 0 : b.height(there, thereRow));
        }, row == 0 && side != 's' ? "0 1 0" : "0 0 0");
        if (!bySea) {
            char back = Beaches.opposite(side);
            sentence.answers("closed from there, " + where, wall, b -> b.isClosed(there, thereRow, back), true);
            sentence.answers("nothing comes over it, " + where, wall, b -> {
                b.pour(there, thereRow, 4);
                return b.flow(there, thereRow, back) + " " + b.height(column, row);
            }, "0 0");
            sentence.refuses("it is one wall, " + where, wall, b -> b.addWall(there, thereRow, back), Sentence.WRONG_STATE);
            sentence.answers("taken away from there, " + where, wall,
                    b -> b.removeWall(there, thereRow, back) + " " + b.isClosed(column, row, side), "0 false");
        }
    }

    private void wayToTheSea() {
        Sentence sentence = document.term("Beach", "There is a way from each cell to the sea over open sides");
        for (int order = 0; order < 8; order++) {
            int first = order;
            sentence.answers("as many walls as may be, order " + order, Beaches.EMPTY, b -> {
                int walls = 0;
                for (int cell = 0; cell < Beaches.CELLS; cell++) {
                    int here = first < 4 ? cell : Beaches.CELLS - 1 - cell;
                    for (int side = 0; side < 4; side++) {
                        char letter = Beaches.SIDES.charAt((side + first) % 4);
                        Object got = Sentence.outcome(b, x -> x.addWall(Beaches.columnOf(here), Beaches.rowOf(here),
                                letter));
                        walls = got instanceof Integer ? (Integer) got : walls;
                    }
                }
                return walls + " " + b.flooded(1) + " " + b.floodedByRounds(1);
            }, Beaches.MOST_WALLS + " 42 42");
        }
        sentence.answers("on a beach full of sand too", Beaches.all(Beaches.PLANTED, Beaches.DAMS),
                b -> Sentence.outcome(b, x -> x.addWall(5, 0, 's')), "throws.UnsupportedOperationException");
    }

    /** Each refusal of the document, one after the other on one beach. */
    private void throwingChangesNothing() {
        Sentence sentence = document.term("Exceptions", "A method that throws an exception changes nothing");
        Sentence.Call[] refused = {
            b -> b.pour(6, 0, 1), b -> b.pour(0, 0, 61), b -> b.dig(0, 7, 1), b -> b.dig(0, 0, 0), b -> b.dig(2, 1, 8),
            b -> b.topplesIf(-1, 0, 9), b -> b.topplesIf(2, 2, 0), b -> b.topplesIfBySweeps(0, -1, 9),
            b -> b.topplesIfBySweeps(2, 2, 61), b -> b.lostIf(6, 6, 9), b -> b.lostIf(2, 0, 0),
            b -> b.lostIfBySweeps(5, 7, 9), b -> b.lostIfBySweeps(2, 0, 61), b -> b.plant(6, 0), b -> b.plant(2, 1),
            b -> b.uproot(0, 7), b -> b.uproot(3, 3), b -> b.addWall(6, 0, 's'), b -> b.addWall(0, 1, 'x'),
            b -> b.addWall(2, 2, 'l'), b -> b.addWall(0, 0, 'w'), b -> b.addWall(0, 6, 'e'), b -> b.removeWall(-1, 0, 's'),
            b -> b.removeWall(2, 2, 'L'), b -> b.removeWall(2, 2, 's'), b -> b.isClosed(6, 2, 'l'),
            b -> b.isClosed(2, 2, 'q'), b -> b.isPlanted(6, 6), b -> b.wave(6, 60), b -> b.wave(2, 61), b -> b.wind(0),
            b -> b.wind(10), b -> b.addStep(-1, 9), b -> b.addStep(1, 0), b -> b.storm(0), b -> b.storm(6),
            b -> b.height(0, 7), b -> b.heightByFlows(6, 0), b -> b.flow(6, 0, 's'), b -> b.flow(2, 2, 'a'),
            b -> b.topplings(6, 0), b -> b.highest(6), b -> b.roughness(-1), b -> b.flooded(-1), b -> b.flooded(21),
            b -> b.floodedByRounds(-1), b -> b.floodedByRounds(21), b -> b.isFlooded(6, 0, 1), b -> b.isFlooded(0, 0, 21)};
        sentence.answers("all of them throw", Beaches.BUSY, b -> countRefused(b, refused), refused.length);
        sentence.changesNothing("all of them", Beaches.BUSY, b -> countRefused(b, refused));
        Beaches.Setup full = Beaches.all(Beaches.BUSY, b -> b.clearStorm(), Beaches.EIGHT_STEPS);
        sentence.refuses("a full storm", full, b -> b.addStep(0, 1), Sentence.WRONG_STATE);
        sentence.refuses("an empty storm", Beaches.all(Beaches.BUSY, b -> b.clearStorm()), b -> b.storm(1),
                Sentence.WRONG_STATE);
    }

    private static int countRefused(Sandpiper beach, Sentence.Call[] calls) {
        int refused = 0;
        for (Sentence.Call call : calls) {
            refused += Sentence.outcome(beach, call).toString().startsWith("throws.") ? 1 : 0;
        }
        return refused;
    }

    private void firstListedIsThrown() {
        Sentence sentence = document.term("Exceptions",
                "If several exceptions apply, the one that is listed first is thrown");
        int[][] cells = {{6, 0}, {-1, 0}, {0, 7}, {0, -1}};
        for (int[] cell : cells) {
            int column = cell[0];
            int row = cell[1];
            String where = " at " + column + "," + row;
            for (int grains : new int[] {0, 61}) {
                first(sentence, "pour" + where + " of " + grains, b -> b.pour(column, row, grains), Sentence.NO_PLACE);
                first(sentence, "dig" + where + " of " + grains, b -> b.dig(column, row, grains), Sentence.NO_PLACE);
                first(sentence, "topplesIf" + where + " of " + grains, b -> b.topplesIf(column, row, grains),
                        Sentence.NO_PLACE);
                first(sentence, "topplesIfBySweeps" + where + " of " + grains,
                        b -> b.topplesIfBySweeps(column, row, grains), Sentence.NO_PLACE);
                first(sentence, "lostIf" + where + " of " + grains, b -> b.lostIf(column, row, grains), Sentence.NO_PLACE);
                first(sentence, "lostIfBySweeps" + where + " of " + grains,
                        b -> b.lostIfBySweeps(column, row, grains), Sentence.NO_PLACE);
            }
            first(sentence, "dig too many" + where, b -> b.dig(column, row, 60), Sentence.NO_PLACE);
            first(sentence, "addWall" + where, b -> b.addWall(column, row, 'x'), Sentence.NO_PLACE);
            first(sentence, "removeWall" + where, b -> b.removeWall(column, row, 'x'), Sentence.NO_PLACE);
            first(sentence, "isClosed" + where, b -> b.isClosed(column, row, 'x'), Sentence.NO_PLACE);
            first(sentence, "flow" + where, b -> b.flow(column, row, 'x'), Sentence.NO_PLACE);
            first(sentence, "isFlooded, level -1" + where, b -> b.isFlooded(column, row, -1), Sentence.NO_PLACE);
            first(sentence, "isFlooded, level 21" + where, b -> b.isFlooded(column, row, 21), Sentence.NO_PLACE);
        }
        first(sentence, "dig 61 of fewer", b -> b.dig(2, 1, 61), Sentence.WRONG_ARGUMENT);
        first(sentence, "dig 60 of fewer", b -> b.dig(2, 1, 60), Sentence.NONE_THERE);
        first(sentence, "wave, no column, energy 0", b -> b.wave(6, 0), Sentence.NO_PLACE);
        first(sentence, "wave, no column, energy 61", b -> b.wave(-1, 61), Sentence.NO_PLACE);
        first(sentence, "addStep, no column, energy 0", b -> b.addStep(-1, 0), Sentence.NO_PLACE);
        first(sentence, "addStep, no column, energy 61", b -> b.addStep(6, 61), Sentence.NO_PLACE);
        Beaches.Setup full = Beaches.EIGHT_STEPS;
        sentence.refuses("no column, full storm", full, b -> b.addStep(6, 1), Sentence.NO_PLACE);
        sentence.refuses("no column, wrong energy, full storm", full, b -> b.addStep(-1, 0), Sentence.NO_PLACE);
        sentence.refuses("energy 0, full storm", full, b -> b.addStep(0, 0), Sentence.WRONG_ARGUMENT);
        sentence.refuses("energy 61, full storm", full, b -> b.addStep(5, 61), Sentence.WRONG_ARGUMENT);
        sentence.refuses("0 times, no steps", Beaches.EMPTY, b -> b.storm(0), Sentence.WRONG_ARGUMENT);
        sentence.refuses("6 times, no steps", Beaches.EMPTY, b -> b.storm(6), Sentence.WRONG_ARGUMENT);
        // A wall that stands is the only one that could cut off; and a side that is none is neither open nor closed.
        sentence.refuses("a wall is there, all walls stand", Beaches.SNAKE, b -> b.addWall(0, 0, 's'), Sentence.WRONG_STATE);
        sentence.refuses("an edge, all walls stand", Beaches.SNAKE, b -> b.addWall(0, 6, 'l'), Sentence.WRONG_STATE);
        sentence.refuses("no side, all walls stand", Beaches.SNAKE, b -> b.addWall(0, 6, 'x'), Sentence.WRONG_ARGUMENT);
        sentence.refuses("no side, no wall", Beaches.EMPTY, b -> b.removeWall(0, 6, 'x'), Sentence.WRONG_ARGUMENT);
    }

    private static void first(Sentence sentence, String what, Sentence.Call call, String exception) {
        sentence.refuses(what, Beaches.BUSY, call, exception);
    }

    private void newObject() {
        Sentence sentence = document.promise(1, "Creates a beach without sand, plants and walls");
        for (int cell = 0; cell < Beaches.CELLS; cell++) {
            int column = Beaches.columnOf(cell);
            int row = Beaches.rowOf(cell);
            sentence.answers("no sand and plants at " + column + "," + row, Beaches.EMPTY, b -> b.height(column, row) + " "
                    + b.heightByFlows(column, row) + " " + b.topplings(column, row) + " " + b.isPlanted(column, row),
                            "0 0 0 false");
        }
        sentence.answers("no flows", Beaches.EMPTY, b -> Beaches.ofAllSides((c, r, s) -> b.flow(c, r, s)), "0 ".repeat(168));
        sentence.answers("no sums", Beaches.EMPTY, b -> Views.sums(b), "0 0 0 0.0");
        sentence.answers("the first plant", Beaches.EMPTY, b -> b.plant(0, 0), 1);
        sentence.answers("the first wall", Beaches.EMPTY, b -> b.addWall(0, 0, 's'), 1);
        sentence.answers("the first step", Beaches.EMPTY, b -> b.clearStorm() * 10 + b.addStep(0, 1), 1);
        sentence.answers("nothing to drop for the first wave", Beaches.EMPTY,
                b -> b.wave(3, 3) + " " + b.sand() + " " + b.sea(), "3 0 0");
        Sandpiper before = Beaches.ready(Beaches.BUSY);
        sentence.same("a second object has none of the first", Views.HEIGHTS.of(new Sandpiper()).contains("p"), false);
        sentence.same("nor has the first of the second", Views.HEIGHTS.of(before),
                Views.HEIGHTS.of(Beaches.ready(Beaches.BUSY)));
    }
}
