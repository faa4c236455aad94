/** The term "Water" and promises 25 to 27: flooded, floodedByRounds, isFlooded. */
final class WaterTest {
    private static final String LEVEL = "Throws IllegalArgumentException if the level is not between 0 and 20";

    /** One way into the columns 0 to 4, round two walls: it goes to the land, back to the sea, and to the land again. */
    private static final Beaches.Setup MAZE = Beaches.all(Beaches.DAMS, b -> {
        for (int row = 0; row < 6; row++) {
            b.addWall(4, row, 'e');
            b.addWall(3, row + 1, 'e');
        }
    });

    /** A dam, and two grains that cut the corner off. */
    private static final Beaches.Setup LAKE = b -> {
        b.pour(1, 0, 1);
        b.addWall(0, 0, 's');
        b.pour(0, 1, 1);
    };

    private static final Beaches.Setup RIDGE = b -> {
        for (int column = 0; column < Beaches.COLUMNS; column++) {
            b.pour(column, 2, 2);
        }
    };

    private final Document document;

    private WaterTest(Document document) {
        this.document = document;
    }

    static void run(Document document) {
        WaterTest test = new WaterTest(document);
        test.lessThanTheLevel();
        test.comesFromTheSea();
        test.promise25and26();
        test.promise27();
        test.wrongLevels();
    }

    /** All three calls that tell of water agree on the number of cells. */
    private static Sentence.Call water(int level) {
        return b -> {
            int cells = 0;
            for (int cell = 0; cell < Beaches.CELLS; cell++) {
                cells += b.isFlooded(Beaches.columnOf(cell), Beaches.rowOf(cell), level) ? 1 : 0;
            }
            return b.flooded(level) + " " + b.floodedByRounds(level) + " " + cells;
        };
    }

    private static String all(int cells) {
        return cells + " " + cells + " " + cells;
    }

    private void lessThanTheLevel() {
        Sentence sentence = document.term("Water",
                "At a level, water stands in each cell whose height is less than the level");
        for (int height = 0; height <= 7; height++) {
            sentence.answers("height " + height + ", the level below", Beaches.planted(2, 3, height),
                    water(Math.max(height - 1, 0)), all(height < 2 ? 0 : 41));
            sentence.answers("height " + height + ", the same level", Beaches.planted(2, 3, height), water(height),
                    all(height == 0 ? 0 : 41));
            sentence.answers("height " + height + ", the level above", Beaches.planted(2, 3, height), water(height + 1),
                    all(42));
        }
        sentence.answers("level 0, nothing is less", Beaches.EMPTY, water(0), all(0));
        sentence.answers("level 1 on an empty beach", Beaches.EMPTY, water(1), all(42));
        sentence.answers("level 7 on a full beach", Beaches.PLANTED, water(7), all(0));
        sentence.answers("level 8 on a full beach", Beaches.PLANTED, water(8), all(42));
        sentence.answers("level 20 on a full beach", Beaches.PLANTED, water(20), all(42));
        sentence.answers("plants do not matter", b -> { b.plant(2, 0); b.plant(2, 1); }, water(1), all(42));
    }

    private void comesFromTheSea() {
        Sentence sentence = document.term("Water",
                "and to which it can come from the sea over open sides and such cells alone");
        sentence.answers("ahead of a ridge", RIDGE, water(2), all(12));
        sentence.answers("over a ridge", RIDGE, water(3), all(42));
        sentence.answers("through a gap", Beaches.all(RIDGE, b -> b.dig(5, 2, 1)), water(2), all(37));
        sentence.answers("not through a gap with a wall on it",
                Beaches.all(RIDGE, b -> b.dig(5, 2, 1), b -> b.addWall(5, 2, 's')), water(2), all(12));
        sentence.answers("into a gap with a wall behind it",
                Beaches.all(RIDGE, b -> b.dig(5, 2, 1), b -> b.addWall(5, 2, 'l')), water(2), all(13));
        sentence.answers("a ridge by the sea", b -> {
            for (int column = 0; column < Beaches.COLUMNS; column++) {
                b.pour(column, 0, 1);
            }
        }, water(1), all(0));
        sentence.answers("round the dams", Beaches.DAMS, water(1), all(42));
        sentence.answers("not round the dams over a hill", Beaches.all(Beaches.DAMS, b -> b.pour(5, 0, 1)), water(1),
                all(0));
        sentence.answers("each way alone, comb", Beaches.all(Beaches.COMB, b -> b.pour(3, 2, 1)), water(1), all(37));
        sentence.answers("the longest way", Beaches.SNAKE, water(1), all(42));
        sentence.answers("the longest way but for its end", Beaches.all(Beaches.SNAKE, b -> b.pour(0, 6, 1)), water(1),
                all(41));
        sentence.answers("the longest way, cut at its beginning", Beaches.all(Beaches.SNAKE, b -> b.pour(5, 0, 1)),
                water(1), all(0));
        sentence.answers("the longest way, cut in the middle", Beaches.all(Beaches.SNAKE, b -> b.pour(3, 3, 1)),
                water(1), all(17));
        sentence.answers("round the walls", MAZE, water(1), all(42));
        sentence.answers("round the walls, up to a hill", Beaches.all(MAZE, b -> b.pour(4, 2, 1)), water(1), all(11));
        sentence.answers("round the walls, not behind a hill", Beaches.all(MAZE, b -> b.pour(4, 0, 1)), water(1), all(13));
        sentence.answers("not over corners", LAKE, water(1), all(39));
        sentence.answers("over sand that is lower than the level", LAKE, water(2), all(42));
        sentence.answers("not into a hole", b -> { b.pour(1, 6, 1); b.pour(0, 5, 1); }, water(1), all(39));
        sentence.answers("a wall away", Beaches.all(LAKE, b -> b.removeWall(0, 0, 's')), water(1), all(40));
    }

    private void promise25and26() {
        Sentence going = document.promise(25,
                "Returns the number of cells in which water stands at a level, found by going from cell to cell");
        Sentence number = document.promise(25, "Returns the number of cells");
        Sentence rounds = document.promise(26, "Returns the same number, found by rounds over all cells");
        Sentence again = document.promise(26, "Returns the number of cells");
        Beaches.Setup[] setups = {Beaches.EMPTY, Beaches.BUSY, Beaches.LEVEL, Beaches.PLANTED, Beaches.SNAKE, MAZE, LAKE,
                RIDGE};
        int[][] due = {{0, 42, 42, 42, 42, 42}, null, {0, 0, 0, 0, 42, 42}, {0, 0, 0, 0, 0, 0}, {0, 42, 42, 42, 42, 42},
            {0, 42, 42, 42, 42, 42}, {0, 39, 42, 42, 42, 42}, {0, 12, 12, 42, 42, 42}};
        for (int i = 0; i < setups.length; i++) {
            Sandpiper beach = Beaches.ready(setups[i]);
            for (int level = 0; level <= 20; level++) {
                int cells = beach.flooded(level);
                rounds.same("beach " + i + ", level " + level, beach.floodedByRounds(level), cells);
                if (due[i] != null && level < due[i].length) {
                    going.same("beach " + i + ", level " + level, cells, due[i][level]);
                    again.same("beach " + i + ", level " + level, beach.floodedByRounds(level), due[i][level]);
                }
            }
            number.same("all at the highest level, beach " + i, beach.flooded(20), 42);
            again.same("all at the highest level, beach " + i, beach.floodedByRounds(20), 42);
            number.same("none at the lowest level, beach " + i, beach.flooded(0), 0);
            again.same("none at the lowest level, beach " + i, beach.floodedByRounds(0), 0);
        }
        // What stood in the water at the level that was asked before must not be counted once more.
        going.answers("after higher levels", RIDGE, b -> b.flooded(20) + " " + b.flooded(2) + " " + b.flooded(0), "42 12 0");
        going.answers("after sand was poured", RIDGE, b -> b.flooded(1) + " " + b.pour(0, 0, 1) + " " + b.flooded(1),
                "12 0 11");
        rounds.answers("after higher levels", RIDGE,
                b -> b.floodedByRounds(20) + " " + b.floodedByRounds(2) + " " + b.floodedByRounds(0), "42 12 0");
        rounds.answers("after sand was poured", RIDGE,
                b -> b.floodedByRounds(1) + " " + b.pour(0, 0, 1) + " " + b.floodedByRounds(1), "12 0 11");
        rounds.answers("after a wall was built", Beaches.all(RIDGE, b -> b.addWall(3, 3, 's')),
                b -> b.floodedByRounds(2), 12);
        going.answers("after a wall was built", Beaches.all(RIDGE, b -> b.addWall(3, 3, 's')), b -> b.flooded(2), 12);
        going.changesNothing("asked", Beaches.BUSY, b -> b.flooded(3));
        rounds.changesNothing("asked", Beaches.BUSY, b -> b.floodedByRounds(3));
    }

    private void promise27() {
        Arguments.cells(document.promise(27, "Throws IndexOutOfBoundsException if there is no such cell"),
                (b, c, r) -> b.isFlooded(c, r, 5));
        document.promise(27, "Returns true if it does").answers("the most", Beaches.PLANTED, b -> b.isFlooded(0, 6, 20),
                true);
        Sentence sentence = document.promise(27, "Tells whether water stands in a cell at a level");
        sentence.answers("a lake without a way", LAKE, b -> b.isFlooded(0, 0, 1), false);
        sentence.answers("its shore under water", LAKE, b -> b.isFlooded(0, 0, 2), true);
        sentence.answers("the water", LAKE, b -> b.isFlooded(5, 6, 1), true);
        sentence.answers("a hill", LAKE, b -> b.isFlooded(1, 0, 1), false);
        sentence.answers("level 0", LAKE, b -> b.isFlooded(5, 6, 0), false);
        sentence.answers("level 20", LAKE, b -> b.isFlooded(5, 6, 20), true);
        sentence.answers("after a wall was built", Beaches.all(RIDGE, b -> b.addWall(3, 3, 's')),
                b -> b.isFlooded(3, 3, 2), false);
        sentence.answers("after other levels", LAKE,
                b -> b.flooded(20) + " " + b.isFlooded(0, 0, 1) + " " + b.floodedByRounds(20) + " "
                + b.isFlooded(0, 0, 1) + " " + b.isFlooded(0, 0, 2), "42 false 42 false true");
        for (int cell = 0; cell < Beaches.CELLS; cell++) {
            int column = Beaches.columnOf(cell);
            int row = Beaches.rowOf(cell);
            String where = " at " + column + "," + row;
            sentence.answers("on an empty beach" + where, Beaches.EMPTY,
                    b -> b.isFlooded(column, row, 0) + " " + b.isFlooded(column, row, 1), "false true");
            sentence.answers("on a full beach" + where, Beaches.PLANTED,
                    b -> b.isFlooded(column, row, 7) + " " + b.isFlooded(column, row, 8), "false true");
            sentence.answers("ahead of the ridge" + where, RIDGE, b -> b.isFlooded(column, row, 2), row < 2);
        }
        sentence.changesNothing("asked", Beaches.BUSY, b -> b.isFlooded(2, 2, 3));
    }

    private void wrongLevels() {
        Arguments.numbers(document.promise(25, LEVEL), 0, 20, (b, level) -> b.flooded(level));
        Arguments.numbers(document.promise(26, LEVEL), 0, 20, (b, level) -> b.floodedByRounds(level));
        Arguments.numbers(document.promise(27, LEVEL), 0, 20, (b, level) -> b.isFlooded(0, 0, level));
    }
}
