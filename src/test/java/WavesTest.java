/** The term "Waves" and promise 14. */
final class WavesTest {
    private final Document document;

    private WavesTest(Document document) {
        this.document = document;
    }

    static void run(Document document) {
        WavesTest test = new WavesTest(document);
        test.loadAtFirst();
        test.fromRow0On();
        test.thrownBack();
        test.stops();
        test.enters();
        test.energyDecreases();
        test.becomesLoad();
        test.lastRow();
        test.lastOneFirst();
        test.takesOneMore();
        test.drops();
        test.restIntoTheSea();
        test.settles();
        test.promise14Comes();
        test.promise14Returns();
        test.promise14Throws();
    }

    /** How many cells the wave enters, the heights of its column afterwards, and what is in the sea. */
    private static Sentence.Call wave(int column, int energy) {
        return b -> b.wave(column, energy) + " " + Beaches.heights(b, column) + " " + b.sea();
    }

    private void loadAtFirst() {
        Sentence sentence = document.term("Waves", "A wave has a column and an energy, and a load, at first 0");
        sentence.answers("nothing to drop", Beaches.EMPTY, wave(3, 6), "6 0000000 0");
        sentence.answers("not the load of the wave before that was thrown back",
                Beaches.all(Beaches.column(2, "3"), b -> b.wave(2, 60)),
                wave(3, 6), "6 0000000 2");
        sentence.answers("not the load of the wave before that stopped",
                Beaches.all(Beaches.column(2, "3"), b -> b.wave(2, 4)),
                wave(3, 6), "6 0000000 0");
        for (int column = 0; column < Beaches.COLUMNS; column++) {
            int its = column;
            sentence.answers("its column alone, " + column, Beaches.LEVEL, b -> {
                b.wave(its, 60);
                StringBuilder text = new StringBuilder();
                for (int other = 0; other < Beaches.COLUMNS; other++) {
                    text.append(Beaches.heights(b, other).equals(other == its ? "1111111" : "3333333") ? "" : " " + other);
                }
                return text.toString();
            }, "");
        }
    }

    private void fromRow0On() {
        Sentence sentence = document.term("Waves",
                "It comes from the sea and enters the cells of the column one after the other, "
                + "from the row 0 on");
        for (int row = 0; row < Beaches.ROWS; row++) {
            String grain = "0".repeat(row) + "3" + "0".repeat(6 - row);
            String taken = "0".repeat(row) + "1" + "0".repeat(6 - row);
            int behind = row;
            sentence.answers("it reaches the row " + row, Beaches.column(4, grain), wave(4, 60), "7 " + taken + " 2");
            sentence.answers("it does not reach the row " + row,
                    Beaches.all(Beaches.column(4, grain), b -> b.addWall(4, behind, 's')),
                    wave(4, 60), row + " " + grain + " 0");
        }
        sentence.answers("the hill by the sea first", Beaches.column(4, "3000000"), wave(4, 3), "0 3000000 0");
        sentence.answers("the hill in the land last", Beaches.column(4, "0000003"), wave(4, 3), "3 0000003 0");
    }

    private void thrownBack() {
        Sentence sentence = document.term("Waves",
                "Ahead of a cell, it is thrown back if the side from which it comes is closed");
        for (int row = 0; row < Beaches.ROWS; row++) {
            int closed = row;
            String due = row + " " + "1".repeat(row) + "3".repeat(7 - row) + " " + 2 * row;
            sentence.answers("ahead of the row " + row,
                    Beaches.all(Beaches.column(2, "3333333"), b -> b.addWall(2, closed, 's')), wave(2, 60), due);
            sentence.answers("ahead of the row " + row + ", least energy",
                    Beaches.all(Beaches.column(2, "3333333"), b -> b.addWall(2, closed, 's')),
                    wave(2, row + 3), due);
        }
        sentence.answers("built from behind", Beaches.all(Beaches.column(2, "3333333"), b -> b.addWall(2, 2, 'l')),
                wave(2, 60), "3 1113333 6");
        sentence.answers("by the sea it enters nothing", Beaches.all(Beaches.column(2, "3"), b -> b.addWall(2, 0, 's')),
                wave(2, 60), "0 3000000 0");
        sentence.answers("a higher cell behind the wall does not matter",
                Beaches.all(Beaches.column(2, "3000700"), b -> b.addWall(2, 4, 's')),
                wave(2, 5), "4 1000700 2");
        sentence.answers("nor that no energy is left", Beaches.all(Beaches.column(2, "2"), b -> b.addWall(2, 3, 's')),
                wave(2, 3), "3 0000000 2");
        sentence.answers("walls beside do not",
                b -> { Beaches.column(2, "3").prepare(b); b.addWall(2, 0, 'e'); b.addWall(2, 0, 'w');
            b.addWall(2, 3, 'e'); }, wave(2, 60), "7 1000000 2");
        sentence.answers("walls of other columns do not",
                Beaches.all(Beaches.column(2, "3"), b -> b.addWall(1, 0, 's'), b -> b.addWall(3, 2, 'l')),
                wave(2, 60), "7 1000000 2");
        sentence.answers("walls that are gone do not",
                Beaches.all(Beaches.column(2, "3"), b -> b.addWall(2, 2, 'l'), b -> b.removeWall(2, 2, 'l')),
                wave(2, 60), "7 1000000 2");
    }

    private void stops() {
        Sentence sentence = document.term("Waves",
                "otherwise it stops if its energy is not greater than the height of the cell");
        for (int height = 1; height <= 7; height++) {
            for (int row = 0; row < 6; row++) {
                // The bare ground ahead of the hill costs 1 for each row.
                Beaches.Setup hill = Beaches.column(2, "0".repeat(row) + height + "0".repeat(6 - row));
                String where = "height " + height + " in the row " + row;
                int ahead = row;
                int equal = row + height;
                sentence.answers(where + ", lower", hill, b -> equal > 1 ? b.wave(2, equal - 1) : 0, row);
                sentence.answers(where + ", equal", hill, b -> b.wave(2, equal), row);
                sentence.answers(where + ", greater by 1", hill, b -> b.wave(2, equal + 1) > ahead, true);
            }
        }
        for (int energy = 1; energy <= 7; energy++) {
            sentence.answers("height 0 and energy 0 after " + energy, Beaches.EMPTY, wave(2, energy), energy + " 0000000 0");
        }
        sentence.answers("it takes nothing of the cell", Beaches.column(2, "0300000"), wave(2, 4), "1 0300000 0");
        sentence.answers("energy below 0", Beaches.all(b -> b.plant(2, 0), b -> b.plant(2, 1)), wave(2, 1), "1 0000000 0");
    }

    private void enters() {
        Sentence sentence = document.term("Waves", "otherwise it enters the cell");
        sentence.answers("energy 1, height 0", Beaches.EMPTY, wave(2, 1), "1 0000000 0");
        sentence.answers("energy 4, height 3", Beaches.column(2, "3"), b -> b.wave(2, 4), 4);
        sentence.answers("energy 8, height 7", Beaches.column(2, "7"), b -> b.wave(2, 8), 6);
        sentence.answers("energy 60", Beaches.PLANTED, b -> b.wave(2, 60), 7);
    }

    private void energyDecreases() {
        Sentence quarter = document.term("Waves", "its energy decreases by 1 plus a quarter of the height, rounded down");
        for (int height = 1; height <= 3; height++) {
            int energy = height + 1;
            quarter.answers("height " + height + ", bare: by 1", Beaches.column(2, height + ""), b -> b.wave(2, energy),
                    1 + energy - 1);
        }
        quarter.answers("height 0, bare: by 1", Beaches.EMPTY, b -> b.wave(2, 5), 5);
        int[] due = {2, 2, 2, 2, 3, 3, 3, 3};
        for (int height = 0; height <= 7; height++) {
            // From its hill on, the wave has bare ground ahead, one row for each energy that it has left.
            for (int energy = Math.max(height + 1, 3); energy <= 8 && energy - due[height] <= 5; energy++) {
                int strength = energy;
                quarter.answers("height " + height + ", planted, energy " + energy, Beaches.planted(2, 0, height),
                        b -> b.wave(2, strength), 1 + energy - due[height]);
            }
        }
        Sentence plants = document.term("Waves", "and by 1 more if the cell is planted");
        plants.answers("a bare cell", Beaches.EMPTY, b -> b.wave(2, 3), 3);
        plants.answers("a planted cell", b -> b.plant(2, 0), b -> b.wave(2, 3), 2);
        plants.answers("two planted cells", Beaches.all(b -> b.plant(2, 0), b -> b.plant(2, 1)), b -> b.wave(2, 5), 3);
        plants.answers("a cell that was planted", Beaches.all(b -> b.plant(2, 0), b -> b.uproot(2, 0)),
                b -> b.wave(2, 3), 3);
        plants.answers("all planted, 14", plantedColumn(), b -> b.wave(2, 14), 7);
        plants.answers("all planted, 13", plantedColumn(), b -> b.wave(2, 13), 7);
        plants.answers("all planted, 12", plantedColumn(), b -> b.wave(2, 12), 6);
        plants.answers("planted in another column", b -> b.plant(1, 0), b -> b.wave(2, 3), 3);
    }

    private static Beaches.Setup plantedColumn() {
        return b -> {
            for (int row = 0; row < Beaches.ROWS; row++) {
                b.plant(2, row);
            }
        };
    }

    private void becomesLoad() {
        Sentence sentence = document.term("Waves",
                "then, if the cell is not planted and has grains, one of them becomes load");
        // The wave stops ahead of the hill, after one cell, or after two: the load is dropped into the last cell first.
        sentence.answers("no grains", Beaches.column(2, "0030000"), wave(2, 5), "2 0030000 0");
        sentence.answers("one grain", Beaches.column(2, "1030000"), wave(2, 5), "2 0130000 0");
        sentence.answers("two grains", Beaches.column(2, "2030000"), wave(2, 5), "2 1130000 0");
        sentence.answers("three grains", Beaches.column(2, "3030000"), wave(2, 5), "2 2130000 0");
        sentence.answers("two cells", Beaches.column(2, "2200300"), wave(2, 7), "4 1111300 0");
        sentence.answers("a planted cell has grains", Beaches.all(Beaches.planted(2, 0, 3), Beaches.column(2, "003")),
                wave(2, 6), "2 3030000 0");
        sentence.answers("a planted cell has none", Beaches.all(Beaches.planted(2, 0, 0), Beaches.column(2, "003")),
                wave(2, 6), "2 0030000 0");
    }

    private void lastRow() {
        Sentence sentence = document.term("Waves",
                "A wave that has entered the cell in the row 6 is thrown back by the closed side there, too");
        sentence.answers("energy 6 stops ahead of it", Beaches.column(2, "1000000"), wave(2, 6), "6 0000010 0");
        sentence.answers("energy 7 is thrown back", Beaches.column(2, "1000000"), wave(2, 7), "7 0000000 1");
        sentence.answers("energy 9, a full column", Beaches.column(2, "3333333"), wave(2, 9), "6 3333333 0");
        sentence.answers("energy 10, a full column", Beaches.column(2, "3333333"), wave(2, 10), "7 1111111 14");
        sentence.answers("a hill in the row 6, equal", Beaches.column(2, "1000003"), wave(2, 9), "6 0000013 0");
        sentence.answers("a hill in the row 6, greater by 1", Beaches.column(2, "1000003"), wave(2, 10), "7 0000001 3");
        sentence.answers("plants in the row 6", Beaches.column(2, "1000007"), wave(2, 14), "7 0000007 1");
        sentence.answers("plants in the row 6, equal", Beaches.column(2, "1000007"), wave(2, 13), "6 0000017 0");
    }

    private void lastOneFirst() {
        Sentence sentence = document.term("Waves",
                "Then it goes back over the cells that it has entered, the last one first");
        sentence.answers("one grain, four cells", Beaches.column(2, "1000000"), wave(2, 4), "4 0001000 0");
        sentence.answers("three grains, five cells", Beaches.column(2, "1110000"), wave(2, 5), "5 0011100 0");
        sentence.answers("one cell", Beaches.column(2, "3330000"), wave(2, 4), "1 3330000 0");
        sentence.answers("not over the cell ahead of which it stops", Beaches.column(2, "2030000"), wave(2, 5),
                "2 1130000 0");
        sentence.answers("no cell at all", Beaches.column(2, "3333333"), wave(2, 3), "0 3333333 0");
    }

    private void takesOneMore() {
        Sentence sentence = document.term("Waves",
                "If it was thrown back, it takes one more grain of each that is not planted and has grains");
        sentence.answers("of 0, 1, 2, 3", Beaches.all(Beaches.column(2, "0123"), b -> b.addWall(2, 3, 'l')), wave(2, 60),
                "4 0001000 5");
        sentence.answers("of nothing", Beaches.EMPTY, wave(2, 60), "7 0000000 0");
        sentence.answers("of single grains", Beaches.column(2, "1111111"), wave(2, 60), "7 0000000 7");
        sentence.answers("of two grains each", Beaches.column(2, "2222222"), wave(2, 60), "7 0000000 14");
        sentence.answers("of plants nothing", Beaches.column(2, "4567777"), wave(2, 60), "7 4567777 0");
        sentence.answers("of low plants nothing",
                Beaches.all(Beaches.planted(2, 0, 1), Beaches.planted(2, 1, 3), Beaches.column(2, "003")),
                wave(2, 60), "7 1310000 2");
        sentence.answers("of cells behind the wall nothing",
                Beaches.all(Beaches.column(2, "2222222"), b -> b.addWall(2, 1, 's')), wave(2, 60), "1 0222222 2");
        sentence.answers("nothing if it stopped", Beaches.column(2, "3330000"), wave(2, 6), "6 2221110 0");
    }

    private void drops() {
        Sentence sentence = document.term("Waves",
                "if it stopped, it drops one grain into each, planted or not, as long as it has load");
        sentence.answers("as long as it has load", Beaches.column(2, "1100000"), wave(2, 6), "6 0000110 0");
        sentence.answers("one into each", Beaches.column(2, "2220000"), wave(2, 5), "5 1121100 0");
        sentence.answers("nothing without load", Beaches.EMPTY, wave(2, 5), "5 0000000 0");
        sentence.answers("as many as cells", Beaches.column(2, "1113000"), wave(2, 4), "3 1113000 0");
        sentence.answers("into an empty planted cell", Beaches.all(Beaches.column(2, "3"), b -> b.plant(2, 2)),
                wave(2, 4), "3 2010000 0");
        sentence.answers("into a planted cell with grains",
                Beaches.all(Beaches.column(2, "301"), Beaches.planted(2, 1, 2)), wave(2, 4), "2 2310000 0");
        sentence.answers("into the bare cell behind it", Beaches.all(Beaches.column(2, "300"), Beaches.planted(2, 1, 2)),
                wave(2, 4), "3 2210000 0");
        sentence.answers("nothing into the sea", Beaches.column(2, "3332000"), wave(2, 6), "6 2232110 0");
    }

    private void restIntoTheSea() {
        Sentence sentence = document.term("Waves", "What is left of the load goes into the sea");
        sentence.answers("all if it was thrown back", Beaches.column(2, "3333333"), wave(2, 60), "7 1111111 14");
        sentence.answers("one grain", Beaches.column(2, "0000001"), wave(2, 60), "7 0000000 1");
        sentence.answers("none if there is none", Beaches.EMPTY, wave(2, 60), "7 0000000 0");
        sentence.answers("none if all is dropped", Beaches.column(2, "3330000"), wave(2, 6), "6 2221110 0");
        sentence.answers("to what is there", Beaches.all(b -> b.pour(4, 0, 4), Beaches.column(2, "3")),
                b -> b.wave(2, 60) + " " + b.sea(), "7 3");
        sentence.answers("off a wall", Beaches.all(Beaches.column(2, "33"), b -> b.addWall(2, 1, 'l')), wave(2, 60),
                "2 1100000 4");
    }

    private void settles() {
        Sentence sentence = document.term("Waves", "Then the beach settles");
        Beaches.Setup full = Beaches.column(2, "375");
        sentence.answers("a drop into 7 planted grains", full, wave(2, 9), "2 3460000 0");
        sentence.answers("its topplings are counted", full,
                b -> b.wave(2, 9) * 100 + b.topplings(2, 1) * 10 + b.flow(2, 1, 'e'), 211);
        sentence.answers("it slides to the columns beside", full,
                b -> b.wave(2, 9) * 100 + b.height(1, 1) * 10 + b.height(3, 1), 211);
        sentence.answers("a drop into 6 planted grains", Beaches.column(2, "365"), wave(2, 9), "2 2750000 0");
        sentence.answers("nothing slides where grains were taken",
                Beaches.all(Beaches.column(2, "37"), b -> b.addWall(2, 1, 'l')),
                wave(2, 60), "2 1700000 2");
        sentence.answers("into the sea", Beaches.all(Beaches.column(2, "1"), Beaches.planted(2, 1, 7),
                Beaches.column(2, "007"), b -> b.pour(1, 1, 3),
                b -> b.pour(1, 0, 3)), b -> b.wave(2, 9) + " " + b.sea(), "2 1");
    }

    private void promise14Comes() {
        Sentence sentence = document.promise(14, "Lets a wave come");
        sentence.answers("the least energy", Beaches.column(0, "0100000"), wave(0, 1), "1 0100000 0");
        sentence.answers("the most energy", Beaches.column(5, "3333333"), wave(5, 60), "7 1111111 14");
        sentence.answers("again and again until nothing is left", Beaches.column(5, "3333333"),
                b -> b.wave(5, 60) + b.wave(5, 60) + b.wave(5, 60) + " " + Beaches.heights(b, 5) + " " + b.sea(),
                        "21 0000000 21");
        sentence.answers("on a full beach", Beaches.PLANTED, b -> b.wave(3, 60) + " " + b.sand() + " " + b.sea(), "7 294 0");
    }

    private void promise14Returns() {
        Sentence sentence = document.promise(14, "Returns the number of cells that it enters");
        for (int energy = 1; energy <= 60; energy++) {
            int strength = energy;
            sentence.answers("bare ground, energy " + energy, Beaches.EMPTY, b -> b.wave(3, strength), Math.min(energy, 7));
        }
        sentence.answers("none", Beaches.column(3, "3"), b -> b.wave(3, 3), 0);
        sentence.answers("none, a dam", b -> b.addWall(3, 0, 's'), b -> b.wave(3, 60), 0);
        sentence.answers("all", Beaches.LEVEL, b -> b.wave(3, 60), 7);
        sentence.answers("cells with the energy just enough for all of a full column", Beaches.column(3, "7777777"),
                b -> b.wave(3, 26), 7);
        sentence.answers("cells with one less", Beaches.column(3, "7777777"), b -> b.wave(3, 25), 6);
    }

    private void promise14Throws() {
        Arguments.columns(document.promise(14, "Throws IndexOutOfBoundsException if there is no such column"),
                (b, column) -> b.wave(column, 1));
        Sentence sentence = document.promise(14, "Throws IllegalArgumentException if the energy is not between 1 and 60");
        Arguments.numbers(sentence, 1, 60, (b, energy) -> b.wave(0, energy));
        sentence.refuses("energy 0 ahead of a dam", Beaches.DAMS, b -> b.wave(0, 0), Sentence.WRONG_ARGUMENT);
        sentence.refuses("energy 61 on a full beach", Beaches.LEVEL, b -> b.wave(5, 61), Sentence.WRONG_ARGUMENT);
    }
}
