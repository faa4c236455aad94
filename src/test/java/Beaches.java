/** Beaches that many tests begin with, and the cells and sides of a beach. */
final class Beaches {
    interface Setup {
        void prepare(Sandpiper beach);
    }

    interface OfSide {
        Object get(int column, int row, char side);
    }

    static final int COLUMNS = 6;
    static final int ROWS = 7;
    static final int CELLS = 42;
    static final String SIDES = "slwe";
    /** 36 + 35 common sides and 6 by the sea can have a wall; 42 of these 77 must stay open, a way for each cell. */
    static final int MOST_WALLS = 35;

    static final Setup EMPTY = beach -> { };

    /** Plants, walls, sand on the beach and in the sea, flows to all sides, and a storm of two steps. */
    static final Setup BUSY = beach -> {
        beach.plant(2, 1);
        beach.plant(4, 4);
        beach.plant(0, 0);
        beach.addWall(2, 2, 'l');
        beach.addWall(1, 3, 'e');
        beach.addWall(4, 0, 's');
        beach.addWall(0, 6, 's');
        beach.pour(2, 1, 60);
        beach.pour(5, 6, 60);
        beach.pour(0, 3, 45);
        beach.wave(2, 40);
        beach.wind(2);
        beach.addStep(1, 7);
        beach.addStep(2, 30);
    };

    /** As much sand as bare ground holds: 126 grains. */
    static final Setup LEVEL = beach -> {
        for (int cell = 0; cell < CELLS; cell++) {
            beach.pour(columnOf(cell), rowOf(cell), 3);
        }
    };

    /** As much sand as a beach holds: 294 grains, all cells planted. */
    static final Setup PLANTED = beach -> {
        for (int cell = 0; cell < CELLS; cell++) {
            beach.plant(columnOf(cell), rowOf(cell));
            beach.pour(columnOf(cell), rowOf(cell), 7);
        }
    };

    /** As many walls as may be: each column has a way of its own to the sea. */
    static final Setup COMB = beach -> {
        for (int row = 0; row < ROWS; row++) {
            for (int column = 0; column < COLUMNS - 1; column++) {
                beach.addWall(column, row, 'e');
            }
        }
    };

    /** As many walls as may be: one way through all cells, from the west to the east, with the sea at its end. */
    static final Setup SNAKE = beach -> {
        for (int column = 0; column < COLUMNS - 1; column++) {
            beach.addWall(column, 0, 's');
            int gap = column % 2 == 0 ? 0 : ROWS - 1;
            for (int row = 0; row < ROWS; row++) {
                if (row != gap) {
                    beach.addWall(column, row, 'e');
                }
            }
        }
    };

    /** The sea has a way to the column 5 alone. */
    static final Setup DAMS = beach -> {
        for (int column = 0; column < COLUMNS - 1; column++) {
            beach.addWall(column, 0, 's');
        }
    };

    static final Setup EIGHT_STEPS = beach -> {
        for (int step = 1; step <= 8; step++) {
            beach.addStep(step % COLUMNS, 60 / step);
        }
    };

    static Sandpiper ready(Setup setup) {
        Sandpiper beach = new Sandpiper();
        setup.prepare(beach);
        return beach;
    }

    static Setup all(Setup... parts) {
        return beach -> {
            for (Setup part : parts) {
                part.prepare(beach);
            }
        };
    }

    /** Sand in a column, a digit a cell, from the sea to the land; a cell is planted where bare ground would not hold it. */
    static Setup column(int column, String heights) {
        return beach -> {
            for (int row = 0; row < heights.length(); row++) {
                int grains = heights.charAt(row) - '0';
                if (grains > 3) {
                    beach.plant(column, row);
                }
                if (grains > 0) {
                    beach.pour(column, row, grains);
                }
            }
        };
    }

    /** A planted cell with grains on it. */
    static Setup planted(int column, int row, int grains) {
        return beach -> {
            beach.plant(column, row);
            if (grains > 0) {
                beach.pour(column, row, grains);
            }
        };
    }

    /** The heights of a column, a digit a cell, from the sea to the land. */
    static String heights(Sandpiper beach, int column) {
        StringBuilder text = new StringBuilder();
        for (int row = 0; row < ROWS; row++) {
            text.append(beach.height(column, row));
        }
        return text.toString();
    }

    static int columnOf(int cell) {
        return cell % COLUMNS;
    }

    static int rowOf(int cell) {
        return cell / COLUMNS;
    }

    static int columnBeside(int column, char side) {
        return side == 'w' ? column - 1 : side == 'e' ? column + 1 : column;
    }

    static int rowBeside(int row, char side) {
        return side == 's' ? row - 1 : side == 'l' ? row + 1 : row;
    }

    static char opposite(char side) {
        return SIDES.charAt(SIDES.indexOf(side) ^ 1);
    }

    static boolean isInside(int column, int row) {
        return column >= 0 && column < COLUMNS && row >= 0 && row < ROWS;
    }

    /** A side with neither a cell nor the sea behind it. */
    static boolean isEdge(int column, int row, char side) {
        return side != 's' && !isInside(columnBeside(column, side), rowBeside(row, side));
    }

    static String ofAllSides(OfSide asked) {
        StringBuilder text = new StringBuilder();
        for (int cell = 0; cell < CELLS; cell++) {
            for (char side : SIDES.toCharArray()) {
                text.append(asked.get(columnOf(cell), rowOf(cell), side)).append(" ");
            }
        }
        return text.toString();
    }

    private Beaches() {
    }
}
