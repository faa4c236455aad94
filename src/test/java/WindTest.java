/** The term "Wind" and promise 15. */
final class WindTest {
    private final Document document;

    private WindTest(Document document) {
        this.document = document;
    }

    static void run(Document document) {
        WindTest test = new WindTest(document);
        test.notPlanted();
        test.asManyAsTold();
        test.openToTheLand();
        test.atTheSameTime();
        test.settles();
        test.promise15();
        test.promise15Throws();
    }

    /** How many grains are given, and the heights of the column 2 afterwards. */
    private static Sentence.Call wind(int least) {
        return b -> b.wind(least) + " " + Beaches.heights(b, 2);
    }

    private void notPlanted() {
        Sentence sentence = document.term("Wind", "each cell that is not planted");
        sentence.answers("planted, 1 grain", Beaches.planted(2, 0, 1), wind(1), "0 1000000");
        sentence.answers("planted, 7 grains", Beaches.planted(2, 0, 7), wind(1), "0 7000000");
        sentence.answers("bare, 3 grains", Beaches.column(2, "3"), wind(1), "1 2100000");
        sentence.answers("a planted cell is given to", Beaches.all(Beaches.column(2, "1"), b -> b.plant(2, 1)), wind(1),
                "1 0100000");
        sentence.answers("no longer planted", Beaches.all(Beaches.planted(2, 0, 1), b -> b.uproot(2, 0)), wind(1),
                "1 0100000");
        sentence.answers("all planted", Beaches.PLANTED, wind(1), "0 7777777");
    }

    private void asManyAsTold() {
        Sentence sentence = document.term("Wind", "has at least as many grains as told");
        for (int least = 1; least <= 9; least++) {
            for (int height = 0; height <= 3; height++) {
                String due = height >= least ? "1 " + (height - 1) + "100000" : "0 " + height + "000000";
                sentence.answers(height + " grains, told " + least, Beaches.column(2, height + ""), wind(least), due);
            }
        }
        sentence.answers("from one on", Beaches.column(2, "1230123"), wind(1), "5 0231031");
        sentence.answers("from two on", Beaches.column(2, "1230123"), wind(2), "3 1131121");
        sentence.answers("from three on", Beaches.column(2, "1230123"), wind(3), "1 1221123");
        sentence.answers("from four on", Beaches.column(2, "1230123"), wind(4), "0 1230123");
    }

    private void openToTheLand() {
        Sentence sentence = document.term("Wind", "and has an open side 'l', gives one grain to the cell there");
        for (int row = 0; row < Beaches.ROWS; row++) {
            int here = row;
            Beaches.Setup one = b -> b.pour(2, here, 1);
            String before = "0".repeat(row) + "1" + "0".repeat(6 - row);
            String after = row == 6 ? before : "0".repeat(row + 1) + "1" + "0".repeat(5 - row);
            sentence.answers("from the row " + row, one, wind(1), (row == 6 ? 0 : 1) + " " + after);
            if (row < 6) {
                sentence.answers("over a wall on the row " + row, Beaches.all(one, b -> b.addWall(2, here, 'l')),
                        wind(1), "0 " + before);
                sentence.answers("over a wall behind the row " + row, Beaches.all(one, b -> b.addWall(2, here + 1, 's')),
                        wind(1), "0 " + before);
                sentence.answers("over other walls, row " + row,
                        Beaches.all(one, b -> b.addWall(2, here, 'e'), b -> b.addWall(2, here, 's')),
                        wind(1), "1 " + after);
            }
        }
        sentence.answers("nothing into the sea or out of it", b -> b.pour(2, 0, 7), b -> { int before = b.sea(); b.wind(1);
            return b.sea() - before; }, 0);
        sentence.answers("its own column", Beaches.column(2, "1"),
                b -> b.wind(1) + b.height(1, 0) + b.height(3, 0) + b.height(1, 1) + b.height(3, 1), 1);
    }

    private void atTheSameTime() {
        Sentence sentence = document.term("Wind", "All cells give at the same time, by the heights before");
        sentence.answers("a grain goes one cell far", Beaches.column(2, "1000000"), wind(1), "1 0100000");
        sentence.answers("each gives its own", Beaches.column(2, "1111111"), wind(1), "6 0111112");
        sentence.answers("what is given is not counted", Beaches.column(2, "2100000"), wind(2), "1 1200000");
        sentence.answers("what is given away is still counted", Beaches.column(2, "2200000"), wind(2), "2 1210000");
        sentence.answers("none has enough before", Beaches.column(2, "1100000"), wind(2), "0 1100000");
        sentence.answers("an empty cell between", Beaches.column(2, "1010000"), wind(1), "2 0101000");
    }

    private void settles() {
        Sentence sentence = document.term("Wind", "Then the beach settles");
        sentence.answers("3 and 1 slide", b -> { b.pour(2, 4, 3); b.addWall(2, 5, 'l'); b.pour(2, 5, 3); },
                b -> b.wind(1) + " "
                + Beaches.heights(b, 2) + " " + b.topplings(2, 5) + " " + b.height(1, 5) + b.height(3, 5), "1 0000310 1 11");
        sentence.answers("in the last row", b -> { b.pour(1, 5, 3); b.pour(1, 6, 3); },
                b -> b.wind(1) + " " + Beaches.heights(b, 1)
                + " " + b.height(0, 6) + b.height(2, 6) + b.flow(1, 6, 's') + b.flow(1, 5, 'l'), "1 0000031 111-1");
        sentence.answers("planted, 7 and 1 slide", Beaches.all(Beaches.column(2, "1"), Beaches.planted(2, 1, 7)),
                wind(1), "1 1410000");
        sentence.answers("planted, 6 and 1 stay", Beaches.all(Beaches.column(2, "1"), Beaches.planted(2, 1, 6)), wind(1),
                "1 0700000");
        sentence.answers("none slides that has given one away", Beaches.column(2, "3310000"), wind(3), "2 2320000");
        sentence.answers("into the sea", Beaches.all(Beaches.column(1, "1"), Beaches.planted(1, 1, 7),
                Beaches.planted(2, 1, 7),
                Beaches.planted(2, 0, 7)), b -> b.wind(1) + " " + b.sea(), "1 1");
    }

    private void promise15() {
        Sentence blows = document.promise(15, "Lets the wind blow");
        blows.answers("all columns", Beaches.LEVEL, b -> b.wind(3) + " " + (b.sand() + b.sea()), "36 126");
        blows.answers("again and again, into the last row", Beaches.column(2, "1"), b -> {
            int given = 0;
            for (int time = 0; time < 9; time++) {
                given += b.wind(1);
            }
            return given + " " + Beaches.heights(b, 2);
        }, "6 0000001");
        blows.answers("nothing is brought", Beaches.LEVEL, b -> { b.wind(1); return b.brought(); }, 126);
        Sentence returned = document.promise(15, "Returns the number of grains that are given");
        returned.answers("none on an empty beach", Beaches.EMPTY, b -> b.wind(1), 0);
        returned.answers("none from the last row", Beaches.column(2, "0000003"), b -> b.wind(1), 0);
        returned.answers("one", Beaches.column(2, "0000010"), b -> b.wind(1), 1);
        returned.answers("as many as may be", Beaches.LEVEL, b -> b.wind(1), 36);
        returned.answers("none, more told than there is anywhere", Beaches.LEVEL, b -> b.wind(4), 0);
        returned.answers("none, the most told", Beaches.LEVEL, b -> b.wind(9), 0);
        returned.answers("not what slides", b -> { b.pour(1, 5, 3); b.pour(1, 6, 3); }, b -> b.wind(3), 1);
    }

    private void promise15Throws() {
        Sentence sentence = document.promise(15, "Throws IllegalArgumentException if the number is not between 1 and 9");
        Arguments.numbers(sentence, 1, 9, (b, least) -> b.wind(least));
        sentence.refuses("0 on an empty beach", Beaches.EMPTY, b -> b.wind(0), Sentence.WRONG_ARGUMENT);
        sentence.refuses("0 on a full beach", Beaches.LEVEL, b -> b.wind(0), Sentence.WRONG_ARGUMENT);
        sentence.refuses("10 on an empty beach", Beaches.EMPTY, b -> b.wind(10), Sentence.WRONG_ARGUMENT);
        sentence.refuses("10 on a full beach", Beaches.LEVEL, b -> b.wind(10), Sentence.WRONG_ARGUMENT);
    }
}
