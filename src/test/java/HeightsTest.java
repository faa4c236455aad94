/** Promises 19 to 24: height, heightByFlows, flow, topplings, highest, roughness. */
final class HeightsTest {
    private static final String NO_CELL = "Throws IndexOutOfBoundsException if there is no such cell";
    private static final String NO_COLUMN = "Throws IndexOutOfBoundsException if there is no such column";

    private final Document document;

    private HeightsTest(Document document) {
        this.document = document;
    }

    static void run(Document document) {
        HeightsTest test = new HeightsTest(document);
        test.promise19();
        test.promise20();
        test.promise20ByEachWay();
        test.promise21Out();
        test.promise21Zero();
        test.promise21Throws();
        test.promise22();
        test.promise23();
        test.promise24();
    }

    private void promise19() {
        document.promise(19, "Returns the height").answers("poured", b -> b.pour(5, 6, 3), b -> b.height(5, 6), 3);
        Sentence sentence = document.promise(19, "Returns the height of a cell, as it is kept");
        sentence.answers("nothing", Beaches.EMPTY, b -> b.height(0, 0), 0);
        for (int height = 0; height <= 7; height++) {
            sentence.answers("as many as " + height, Beaches.planted(1, 4, height), b -> b.height(1, 4), height);
        }
        sentence.answers("the most that bare ground holds", Beaches.LEVEL, b -> b.height(3, 3), 3);
        sentence.answers("its column and row", b -> b.pour(1, 4, 2), b -> b.height(1, 4) + " " + b.height(4, 1), "2 0");
        sentence.answers("poured into the last cell alone", b -> b.pour(5, 6, 3),
                b -> b.height(5, 6) * 100 + b.height(4, 6) + b.height(5, 5), 300);
        sentence.answers("dug", b -> { b.pour(0, 0, 3); b.dig(0, 0, 2); }, b -> b.height(0, 0), 1);
        sentence.answers("after a wave", Beaches.all(Beaches.column(2, "3"), b -> b.wave(2, 60)), b -> b.height(2, 0), 1);
        sentence.answers("after wind", Beaches.all(Beaches.column(2, "3"), b -> b.wind(1)),
                b -> b.height(2, 0) + " " + b.height(2, 1), "2 1");
        sentence.changesNothing("asked", Beaches.BUSY, b -> b.height(2, 1));
        Arguments.cells(document.promise(19, NO_CELL), (b, column, row) -> b.height(column, row));
    }

    private void promise20() {
        document.promise(20, "Returns the height").answers("poured", b -> b.pour(5, 6, 3), b -> b.heightByFlows(5, 6), 3);
        Sentence sentence = document.promise(20,
                "Returns the same height, found from all that was brought to the cell and taken from it, "
                + "by pouring, digging, waves and wind, and from all that flowed over its sides");
        Beaches.Setup much = Beaches.all(Beaches.BUSY,
                b -> { b.dig(2, 1, 1); b.storm(5); b.uproot(2, 1); b.removeWall(2, 3, 's');
            b.pour(0, 0, 44); b.addWall(0, 0, 's'); b.wind(1); b.wave(3, 4); });
        Beaches.Setup[] setups = {Beaches.EMPTY, Beaches.BUSY, Beaches.LEVEL, Beaches.PLANTED, much,
            Beaches.all(Beaches.SNAKE, b -> { b.pour(0, 6, 60); b.pour(0, 6, 60); }),
            Beaches.all(Beaches.PLANTED, b -> { b.pour(3, 3, 60); b.wave(3, 60); b.wind(1); b.uproot(3, 3); })};
        for (int i = 0; i < setups.length; i++) {
            Sandpiper beach = Beaches.ready(setups[i]);
            for (int cell = 0; cell < Beaches.CELLS; cell++) {
                int column = Beaches.columnOf(cell);
                int row = Beaches.rowOf(cell);
                sentence.same("beach " + i + " at " + column + "," + row, beach.heightByFlows(column, row),
                        beach.height(column, row));
            }
        }
        sentence.changesNothing("asked", Beaches.BUSY, b -> b.heightByFlows(2, 1));
        Arguments.cells(document.promise(20, NO_CELL), (b, column, row) -> b.heightByFlows(column, row));
    }

    private void promise20ByEachWay() {
        Sentence sentence = document.promise(20,
                "Returns the same height, found from all that was brought to the cell and taken from it, "
                + "by pouring, digging, waves and wind, and from all that flowed over its sides");
        sentence.answers("nothing", Beaches.EMPTY, b -> b.heightByFlows(0, 0), 0);
        sentence.answers("7 planted", Beaches.PLANTED, b -> b.heightByFlows(5, 6), 7);
        sentence.answers("by pouring", b -> b.pour(1, 1, 3), b -> b.heightByFlows(1, 1), 3);
        sentence.answers("by digging", b -> { b.pour(1, 1, 3); b.dig(1, 1, 1); }, b -> b.heightByFlows(1, 1), 2);
        sentence.answers("by digging all", b -> { b.pour(1, 1, 3); b.dig(1, 1, 3); }, b -> b.heightByFlows(1, 1), 0);
        sentence.answers("by a wave that takes", Beaches.all(Beaches.column(1, "3"), b -> b.wave(1, 60)),
                b -> b.heightByFlows(1, 0), 1);
        sentence.answers("by a wave that drops", Beaches.all(Beaches.column(1, "3"), b -> b.wave(1, 4)),
                b -> b.heightByFlows(1, 0) * 10 + b.heightByFlows(1, 3), 21);
        sentence.answers("by wind", Beaches.all(Beaches.column(1, "3"), b -> b.wind(1)),
                b -> b.heightByFlows(1, 0) * 10 + b.heightByFlows(1, 1), 21);
        sentence.answers("by flows out of it", b -> b.pour(1, 1, 5), b -> b.heightByFlows(1, 1), 1);
        sentence.answers("by flows into it", b -> b.pour(1, 1, 5),
                b -> b.heightByFlows(1, 2) * 10 + b.heightByFlows(0, 1), 11);
        sentence.answers("by flows into the sea", b -> b.pour(1, 0, 4), b -> b.heightByFlows(1, 0), 0);
        sentence.answers("not by trials", b -> b.topplesIf(1, 1, 60), b -> b.heightByFlows(1, 1) + b.heightByFlows(1, 2), 0);
        sentence.answers("by flows over a side that is closed now", b -> { b.pour(1, 1, 4); b.addWall(1, 1, 'e'); },
                b -> b.heightByFlows(1, 1) * 10 + b.heightByFlows(2, 1), 1);
    }

    private void promise21Out() {
        Sentence sentence = document.promise(21,
                "Returns how many grains have flowed over a side out of a cell, minus those that have flowed "
                + "over it into the cell");
        Beaches.Setup one = b -> b.pour(2, 3, 4);
        Beaches.Setup thereAndBack = b -> { b.pour(2, 3, 4); b.pour(3, 3, 3); };
        for (char side : Beaches.SIDES.toCharArray()) {
            int column = Beaches.columnBeside(2, side);
            int row = Beaches.rowBeside(3, side);
            char back = Beaches.opposite(side);
            sentence.answers("out over " + side, one, b -> b.flow(2, 3, side), 1);
            sentence.answers("in over " + back, one, b -> b.flow(column, row, back), -1);
            sentence.answers("out three times over " + side, b -> b.pour(2, 3, 12),
                    b -> b.flow(2, 3, side) + b.flow(column, row, back), 0);
            sentence.answers("there and back over " + side, Beaches.all(one, b -> b.pour(column, row, 3)),
                    b -> b.flow(2, 3, side) + " " + b.flow(column, row, back) + " " + b.flow(column, row, side), "0 0 1");
        }
        sentence.answers("into the sea", b -> b.pour(2, 0, 9), b -> b.flow(2, 0, 's') + " " + b.sea(), "2 2");
        sentence.answers("from the sea nothing comes", b -> b.pour(2, 0, 9), b -> b.flow(2, 0, 's') > 0, true);
        sentence.answers("all that is in the sea by sliding", Beaches.all(Beaches.LEVEL, b -> b.pour(3, 3, 60)), b -> {
            int sum = 0;
            for (int column = 0; column < Beaches.COLUMNS; column++) {
                sum += b.flow(column, 0, 's');
            }
            return sum == b.sea() && sum > 0;
        }, true);
        sentence.answers("in several calls", b -> { b.pour(2, 3, 4); b.pour(2, 3, 4); b.plant(2, 3); b.pour(2, 3, 8); },
                b -> b.flow(2, 3, 's'), 3);
        sentence.answers("still, when a wall is built", Beaches.all(one, b -> b.addWall(2, 3, 'e')),
                b -> b.flow(2, 3, 'e') + " " + b.flow(3, 3, 'w'), "1 -1");
        sentence.answers("still, after digging", Beaches.all(one, b -> b.dig(3, 3, 1)), b -> b.flow(3, 3, 'w'), -1);
        sentence.changesNothing("asked", thereAndBack, b -> b.flow(2, 3, 'e'));
        Sentence difference = document.promise(21, "Returns the difference");
        difference.answers("there and back", thereAndBack, b -> b.flow(2, 3, 'e') * 10 + b.flow(3, 3, 'e'), 1);
        difference.answers("with the other sign from beyond", Beaches.all(Beaches.LEVEL, b -> b.pour(3, 3, 60)), b -> {
            int sum = 0;
            for (int cell = 0; cell < Beaches.CELLS; cell++) {
                int column = Beaches.columnOf(cell);
                int row = Beaches.rowOf(cell);
                sum += row < 6 && b.flow(column, row, 'l') != -b.flow(column, row + 1, 's') ? 1 : 0;
                sum += column < 5 && b.flow(column, row, 'e') != -b.flow(column + 1, row, 'w') ? 1 : 0;
            }
            return sum;
        }, 0);
    }

    private void promise21Zero() {
        Sentence sentence = document.promise(21, "Returns the difference");
        sentence.answers("nothing has flowed", Beaches.LEVEL, b -> Beaches.ofAllSides((c, r, s) -> b.flow(c, r, s)),
                "0 ".repeat(168));
        sentence.answers("elsewhere", b -> b.pour(2, 3, 4),
                b -> b.flow(2, 2, 's') + " " + b.flow(3, 3, 'e') + " " + b.flow(3, 2, 'w'), "0 0 0");
        sentence.answers("over the edges", b -> { b.pour(0, 6, 40); b.pour(5, 0, 40); b.pour(5, 6, 40); },
                b -> b.flow(0, 6, 'l') + " "
                + b.flow(0, 6, 'w') + " " + b.flow(5, 0, 'e') + " " + b.flow(5, 6, 'l') + " " + b.flow(5, 6, 'e'),
                        "0 0 0 0 0");
        sentence.answers("over a wall", b -> { b.addWall(2, 3, 'e'); b.pour(2, 3, 40); },
                b -> b.flow(2, 3, 'e') + b.flow(3, 3, 'w'), 0);
        sentence.answers("over a dam", b -> { b.addWall(2, 0, 's'); b.pour(2, 0, 40); }, b -> b.flow(2, 0, 's'), 0);
        sentence.answers("by waves", Beaches.all(Beaches.column(2, "3"), b -> b.wave(2, 4)),
                b -> b.flow(2, 0, 'l') + b.flow(2, 0, 's')
                + b.flow(2, 3, 's'), 0);
        sentence.answers("by wind", Beaches.all(Beaches.column(2, "3"), b -> b.wind(1)),
                b -> b.flow(2, 0, 'l') + b.flow(2, 1, 's'), 0);
        sentence.answers("by trials", b -> { b.topplesIf(2, 3, 40); b.lostIfBySweeps(2, 3, 40); },
                b -> b.flow(2, 3, 's'), 0);
    }

    private void promise21Throws() {
        Arguments.cells(document.promise(21, NO_CELL), (b, column, row) -> b.flow(column, row, 's'));
        Arguments.sides(document.promise(21, "Throws IllegalArgumentException if there is no such side"),
                (b, column, row, side) -> b.flow(column, row, side));
    }

    private void promise22() {
        document.promise(22, "Returns how often it has").answers("once", b -> b.pour(2, 3, 4), b -> b.topplings(2, 3), 1);
        Sentence sentence = document.promise(22, "Returns how often a cell has toppled");
        sentence.answers("never, empty", Beaches.EMPTY, b -> b.topplings(0, 0), 0);
        sentence.answers("never, 3 grains", b -> b.pour(2, 3, 3), b -> b.topplings(2, 3), 0);
        sentence.answers("never, 7 on plants", Beaches.PLANTED, b -> b.topplings(2, 3), 0);
        sentence.answers("once, 4 grains", b -> b.pour(2, 3, 4), b -> b.topplings(2, 3) * 10 + b.topplings(2, 2), 10);
        sentence.answers("once, 8 on plants", Beaches.planted(2, 3, 8), b -> b.topplings(2, 3), 1);
        sentence.answers("six times and once beside", b -> b.pour(2, 3, 20),
                b -> b.topplings(2, 3) * 10 + b.topplings(2, 2), 61);
        sentence.answers("in several calls", b -> { b.pour(2, 3, 4); b.pour(2, 3, 4); }, b -> b.topplings(2, 3), 2);
        sentence.answers("by uprooting", Beaches.all(Beaches.planted(2, 3, 7), b -> b.uproot(2, 3)),
                b -> b.topplings(2, 3), 1);
        sentence.answers("by a wave", Beaches.all(Beaches.column(2, "375"), b -> b.wave(2, 9)), b -> b.topplings(2, 1), 1);
        sentence.answers("by wind", Beaches.all(Beaches.column(2, "1"), Beaches.planted(2, 1, 7), b -> b.wind(1)),
                b -> b.topplings(2, 1), 1);
        sentence.answers("by a storm", Beaches.all(Beaches.column(2, "375"), b -> b.addStep(2, 9), b -> b.storm(1)),
                b -> b.topplings(2, 1), 1);
        sentence.answers("not in trials", b -> { b.topplesIf(2, 3, 40); b.topplesIfBySweeps(2, 3, 40); b.lostIf(2, 3, 40);
            b.lostIfBySweeps(2, 3, 40); }, b -> b.topplings(2, 3), 0);
        sentence.answers("it stays when sand is gone", b -> { b.pour(2, 3, 5); b.dig(2, 3, 1); }, b -> b.topplings(2, 3), 1);
        sentence.changesNothing("asked", Beaches.BUSY, b -> b.topplings(2, 1));
        Arguments.cells(document.promise(22, NO_CELL), (b, column, row) -> b.topplings(column, row));
    }

    private void promise23() {
        document.promise(23, "Returns the row").answers("an empty column", Beaches.EMPTY, b -> b.highest(4), 0);
        Sentence highest = document.promise(23, "Returns the row of the highest cell of a column");
        for (int row = 0; row < Beaches.ROWS; row++) {
            int its = row;
            highest.answers("one grain in the row " + row, b -> b.pour(4, its, 1), b -> b.highest(4), row);
            highest.answers("3 among 2, in the row " + row,
                    Beaches.column(4, "2".repeat(row) + "3" + "2".repeat(6 - row)), b -> b.highest(4), row);
            highest.answers("7 among 6, in the row " + row,
                    Beaches.column(4, "6".repeat(row) + "7" + "6".repeat(6 - row)), b -> b.highest(4), row);
        }
        for (int column = 0; column < Beaches.COLUMNS; column++) {
            int its = column;
            highest.answers("its own column, " + column, b -> b.pour(its, 5, 2),
                    b -> b.highest(its) * 10 + b.highest((its + 1) % 6), 50);
        }
        Sentence several = document.promise(23, "of several, the lowest row");
        several.answers("all empty", Beaches.EMPTY, b -> b.highest(0), 0);
        several.answers("all full", Beaches.PLANTED, b -> b.highest(5), 0);
        several.answers("two", Beaches.column(4, "0130313"), b -> b.highest(4), 2);
        several.answers("the last two", Beaches.column(4, "1111133"), b -> b.highest(4), 5);
        several.answers("the first and the last", Beaches.column(4, "3000003"), b -> b.highest(4), 0);
        several.answers("planted and bare", Beaches.all(Beaches.planted(4, 5, 3), Beaches.column(4, "0030000")),
                b -> b.highest(4), 2);
        several.changesNothing("asked", Beaches.BUSY, b -> b.highest(2));
        Arguments.columns(document.promise(23, NO_COLUMN), (b, column) -> b.highest(column));
    }

    private void promise24() {
        document.promise(24, "Returns the sum").answers("an empty column", Beaches.EMPTY, b -> b.roughness(0), 0);
        Sentence sentence = document.promise(24,
                "Returns the sum of the differences, without sign, of the heights of neighbouring cells of a column");
        sentence.answers("even", Beaches.column(0, "2222222"), b -> b.roughness(0), 0);
        sentence.answers("all full", Beaches.PLANTED, b -> b.roughness(3), 0);
        sentence.answers("up", Beaches.column(0, "0000003"), b -> b.roughness(0), 3);
        sentence.answers("down", Beaches.column(0, "3000000"), b -> b.roughness(0), 3);
        for (int row = 1; row < 6; row++) {
            int its = row;
            sentence.answers("up and down in the row " + row, b -> b.pour(0, its, 2), b -> b.roughness(0), 4);
        }
        sentence.answers("up and down again", Beaches.column(0, "1320133"), b -> b.roughness(0), 2 + 1 + 2 + 1 + 2);
        sentence.answers("the first and the last are no neighbours", Beaches.column(5, "3000002"), b -> b.roughness(5), 5);
        sentence.answers("the most", Beaches.column(5, "7070707"), b -> b.roughness(5), 42);
        sentence.answers("the most, from 0 on", Beaches.column(5, "0707070"), b -> b.roughness(5), 42);
        sentence.answers("its own column", Beaches.column(4, "3030303"),
                b -> b.roughness(5) * 1000 + b.roughness(3) * 100 + b.roughness(4), 18);
        sentence.answers("walls between do not matter", Beaches.all(Beaches.column(4, "3"), b -> b.addWall(4, 0, 'l')),
                b -> b.roughness(4), 3);
        sentence.changesNothing("asked", Beaches.BUSY, b -> b.roughness(2));
        Arguments.columns(document.promise(24, NO_COLUMN), (b, column) -> b.roughness(column));
    }
}
