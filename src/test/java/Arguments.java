/** The first arguments that are wrong and the last that are right, for all calls that take arguments of the kind. */
final class Arguments {
    interface OfCell {
        Object answer(Sandpiper beach, int column, int row);
    }

    interface OfNumber {
        Object answer(Sandpiper beach, int number);
    }

    interface OfSide {
        Object answer(Sandpiper beach, int column, int row, char side);
    }

    private static final int LOWEST = Integer.MIN_VALUE;
    private static final int HIGHEST = Integer.MAX_VALUE;

    /**
     * Beside the four corners and edges, and such that a number reckoned out of them, by columns or by rows, with or
     * without a wrap-around, would be the number of a cell.
     */
    private static final int[][] OUTSIDE = {
        {-1, 0}, {-1, 6}, {6, 0}, {6, 6}, {0, -1}, {5, -1}, {0, 7}, {5, 7},
        {-1, -1}, {6, 7}, {-1, 3}, {6, 3}, {3, -1}, {3, 7}, {-6, 1}, {12, 0}, {41, 0}, {7, -1},
        {0, 715827883}, {613566757, 0}, {2, LOWEST}, {LOWEST, 2}, {256, 0}, {0, 256}, {65536, 65536},
        {LOWEST, LOWEST}, {HIGHEST, HIGHEST}, {HIGHEST, 0}, {0, HIGHEST}};

    private static final int[] NO_COLUMNS = {-1, 6, 7, -6, 42, 256, 65536, LOWEST, HIGHEST, 613566757, 715827883};

    private static final char[] NO_SIDES = {
        'r', 't', 'k', 'm', 'v', 'x', 'd', 'f', 'S', 'L', 'W', 'E', 'n', ' ', '0', '1', '3',
        (char) 0, (char) 1, (char) 3, (char) ('s' + 128), (char) ('s' + 256), (char) ('e' + 32768), (char) 0xFFFF};

    /** Each cell of the beach is one; what lies outside of it is none. */
    static void cells(Sentence sentence, OfCell call) {
        for (int cell = 0; cell < Beaches.CELLS; cell++) {
            int column = Beaches.columnOf(cell);
            int row = Beaches.rowOf(cell);
            Object got = Sentence.outcome(new Sandpiper(), b -> call.answer(b, column, row));
            sentence.same("there is " + column + "," + row, got.equals("throws." + Sentence.NO_PLACE), false);
        }
        for (int[] cell : OUTSIDE) {
            String what = "there is no " + cell[0] + "," + cell[1];
            sentence.refuses(what, Beaches.EMPTY, b -> call.answer(b, cell[0], cell[1]), Sentence.NO_PLACE);
            sentence.refuses(what + ", busy", Beaches.BUSY, b -> call.answer(b, cell[0], cell[1]), Sentence.NO_PLACE);
        }
    }

    static void columns(Sentence sentence, OfNumber call) {
        for (int column = 0; column < Beaches.COLUMNS; column++) {
            int kept = column;
            Object got = Sentence.outcome(new Sandpiper(), b -> call.answer(b, kept));
            sentence.same("there is " + column, got.equals("throws." + Sentence.NO_PLACE), false);
        }
        for (int column : NO_COLUMNS) {
            String what = "there is no " + column;
            sentence.refuses(what, Beaches.EMPTY, b -> call.answer(b, column), Sentence.NO_PLACE);
            sentence.refuses(what + ", busy", Beaches.BUSY, b -> call.answer(b, column), Sentence.NO_PLACE);
        }
    }

    /** From the least to the most all numbers are right; the next ones on both sides and those far away are not. */
    static void numbers(Sentence sentence, int least, int most, OfNumber call) {
        for (int number = least; number <= most; number++) {
            int kept = number;
            Object got = Sentence.outcome(Beaches.ready(Beaches.BUSY), b -> call.answer(b, kept));
            sentence.same("right is " + number, got.equals("throws." + Sentence.WRONG_ARGUMENT), false);
        }
        int[] wrong = {least - 1, most + 1, -most, -least - 1, least + 256, least + 65536, most - 256, LOWEST,
                LOWEST + least,
            HIGHEST};
        for (int number : wrong) {
            sentence.refuses("wrong is " + number, Beaches.BUSY, b -> call.answer(b, number), Sentence.WRONG_ARGUMENT);
            sentence.refuses("wrong is " + number + ", on a beach with steps alone", b -> b.addStep(1, 9),
                    b -> call.answer(b, number), Sentence.WRONG_ARGUMENT);
        }
    }

    /** There are four sides; no other sign is one, be the cell at an edge or not. */
    static void sides(Sentence sentence, OfSide call) {
        for (char side : Beaches.SIDES.toCharArray()) {
            Object got = Sentence.outcome(new Sandpiper(), b -> call.answer(b, 2, 3, side));
            sentence.same("there is " + side, got.equals("throws." + Sentence.WRONG_ARGUMENT), false);
        }
        for (char side : NO_SIDES) {
            String what = "there is no side " + (int) side;
            sentence.refuses(what, Beaches.EMPTY, b -> call.answer(b, 2, 3, side), Sentence.WRONG_ARGUMENT);
            sentence.refuses(what + ", at an edge", Beaches.BUSY, b -> call.answer(b, 0, 6, side), Sentence.WRONG_ARGUMENT);
            sentence.refuses(what + ", at a wall", Beaches.BUSY, b -> call.answer(b, 4, 0, side), Sentence.WRONG_ARGUMENT);
        }
        sentence.same("no other sign of 65536", otherSides(call), 0);
    }

    private static int otherSides(OfSide call) {
        int taken = 0;
        Sandpiper beach = new Sandpiper();
        for (int sign = 0; sign < 65536; sign++) {
            if (sign % 500 == 0) {
                beach = new Sandpiper();
            }
            char side = (char) sign;
            Object got = Sentence.outcome(beach, b -> call.answer(b, 2, 3, side));
            boolean isSide = Beaches.SIDES.indexOf(side) >= 0;
            taken += isSide || got.equals("throws." + Sentence.WRONG_ARGUMENT) ? 0 : 1;
        }
        return taken;
    }

    private Arguments() {
    }
}
