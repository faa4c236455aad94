import java.util.Random;

/** The term "Sliding". */
final class SlidingTest {
    private final Document document;

    private SlidingTest(Document document) {
        this.document = document;
    }

    static void run(Document document) {
        SlidingTest test = new SlidingTest(document);
        test.tooHigh();
        test.oneGrainOverEachOpenSide();
        test.again();
        test.anyOrder();
        test.flowing();
        test.notFlowing();
    }

    private void tooHigh() {
        Sentence sentence = document.term("Sliding",
                "A cell is too high if it has at least 4 grains, or at least 8 if it is planted");
        for (int cell = 0; cell < Beaches.CELLS; cell++) {
            int column = Beaches.columnOf(cell);
            int row = Beaches.rowOf(cell);
            String where = " at " + column + "," + row;
            Beaches.Setup plant = b -> b.plant(column, row);
            sentence.answers("3 stay" + where, Beaches.EMPTY, b -> b.pour(column, row, 3) * 10 + b.height(column, row), 3);
            sentence.answers("4 slide" + where, Beaches.EMPTY, b -> b.pour(column, row, 4), 1);
            sentence.answers("3 and 1 slide" + where, b -> b.pour(column, row, 3), b -> b.pour(column, row, 1), 1);
            sentence.answers("planted, 4 stay" + where, plant, b -> b.pour(column, row, 4) * 10 + b.height(column, row), 4);
            sentence.answers("planted, 7 stay" + where, plant, b -> b.pour(column, row, 7) * 10 + b.height(column, row), 7);
            sentence.answers("planted, 8 slide" + where, plant, b -> b.pour(column, row, 8), 1);
            sentence.answers("planted, 7 and 1 slide" + where, Beaches.planted(column, row, 7),
                    b -> b.pour(column, row, 1), 1);
        }
    }

    private void oneGrainOverEachOpenSide() {
        Sentence sentence = document.term("Sliding",
                "When a cell topples, one grain goes over each of its open sides, to the "
                + "cell there or into the sea");
        for (int cell = 0; cell < Beaches.CELLS; cell++) {
            int column = Beaches.columnOf(cell);
            int row = Beaches.rowOf(cell);
            String where = " at " + column + "," + row;
            sentence.answers("to each cell beside" + where, b -> b.pour(column, row, 4), b -> around(b, column, row),
                    aroundDue(column, row));
            int open = 4;
            for (char side : Beaches.SIDES.toCharArray()) {
                open -= Beaches.isEdge(column, row, side) ? 1 : 0;
            }
            int left = 4 - open;
            sentence.answers("so many are left" + where, b -> b.pour(column, row, 4), b -> b.height(column, row), left);
            sentence.answers("so many are left of 8 planted" + where, Beaches.planted(column, row, 8),
                    b -> b.height(column, row), left + 4);
        }
        Beaches.Setup one = b -> {
            b.addWall(2, 3, 'l');
            b.addWall(2, 3, 'e');
            b.addWall(2, 3, 'w');
        };
        sentence.answers("over one open side alone", one,
                b -> b.pour(2, 3, 5) + " " + b.height(2, 3) + " " + b.height(2, 2), "2 3 2");
        sentence.answers("none over walls", one, b -> b.pour(2, 3, 5) + b.height(2, 4) + b.height(1, 3) + b.height(3, 3), 2);
        sentence.answers("none over a dam", b -> b.addWall(3, 0, 's'),
                b -> b.pour(3, 0, 4) + " " + b.height(3, 0) + " " + b.sea(), "1 1 0");
        sentence.answers("over a dam that is gone", b -> { b.addWall(3, 0, 's'); b.removeWall(3, 0, 's'); },
                b -> b.pour(3, 0, 4) + " " + b.height(3, 0) + " " + b.sea(), "1 0 1");
        sentence.answers("the sea alone", b -> { one.prepare(b); b.addWall(4, 0, 'l'); b.addWall(4, 0, 'w');
                b.addWall(4, 0, 'e'); },
                b -> b.pour(4, 0, 60) + " " + b.height(4, 0) + " " + b.sea(), "57 3 57");
    }

    private static String around(Sandpiper beach, int column, int row) {
        StringBuilder text = new StringBuilder();
        for (char side : Beaches.SIDES.toCharArray()) {
            int there = Beaches.columnBeside(column, side);
            int thereRow = Beaches.rowBeside(row, side);
            text.append(Beaches.isInside(there, thereRow) ? beach.height(there, thereRow) : beach.flow(column, row, side));
        }
        return text.append(" ").append(beach.sea()).toString();
    }

    private static String aroundDue(int column, int row) {
        StringBuilder text = new StringBuilder();
        for (char side : Beaches.SIDES.toCharArray()) {
            text.append(Beaches.isEdge(column, row, side) ? 0 : 1);
        }
        return text.append(" ").append(row == 0 ? 1 : 0).toString();
    }

    private void again() {
        Sentence sentence = document.term("Sliding",
                "Settling lets a cell that is too high topple, again and again until there is none");
        sentence.answers("20 grains, 6 times there and once beside", b -> b.pour(2, 3, 20),
                b -> b.topplings(2, 3) + " " + b.height(2, 3)
                + " " + b.height(2, 2) + b.height(2, 4) + b.height(1, 3) + b.height(3, 3), "6 0 2222");
        sentence.answers("a beach at rest stays", Beaches.LEVEL, b -> b.sand() + " " + b.sea() + " " + b.topplings(3, 3),
                "126 0 0");
        Beaches.Setup[] setups = {Beaches.EMPTY, Beaches.LEVEL, Beaches.COMB, Beaches.SNAKE, Beaches.DAMS, Beaches.PLANTED};
        for (int i = 0; i < setups.length; i++) {
            int kind = i;
            sentence.answers("none too high, beach " + kind, setups[i], b -> {
                b.pour(0, 6, 60);
                b.pour(5, 6, 60);
                b.pour(3, 3, 60);
                return highestOfAll(b) <= (kind == setups.length - 1 ? 7 : 3);
            }, true);
        }
        sentence.answers("none too high after all plants are gone", Beaches.PLANTED, b -> {
            for (int cell = 0; cell < Beaches.CELLS; cell++) {
                b.uproot(Beaches.columnOf(cell), Beaches.rowOf(cell));
            }
            return highestOfAll(b) + " " + (b.sand() + b.sea());
        }, "3 294");
    }

    private static int highestOfAll(Sandpiper beach) {
        int highest = 0;
        for (int cell = 0; cell < Beaches.CELLS; cell++) {
            highest = Math.max(highest, beach.height(Beaches.columnOf(cell), Beaches.rowOf(cell)));
        }
        return highest;
    }

    /** The same grains in other orders, and in one call and in several, end as the same beach. */
    private void anyOrder() {
        Sentence sentence = document.term("Sliding",
                "which one it is each time makes no difference for the heights, and none for "
                + "how often each cell topples");
        Beaches.Setup[] setups = {Beaches.EMPTY, Beaches.LEVEL, Beaches.COMB, Beaches.DAMS, Beaches.PLANTED};
        int[][] pours = {{2, 3, 50}, {0, 6, 37}, {5, 0, 21}, {4, 6, 60}, {2, 2, 9}};
        for (int i = 0; i < setups.length; i++) {
            String[] seen = new String[3];
            for (int order = 0; order < 3; order++) {
                Sandpiper beach = Beaches.ready(setups[i]);
                for (int time = 0; time < pours.length; time++) {
                    int[] pour = pours[order == 1 ? pours.length - 1 - time : time];
                    beach.pour(pour[0], pour[1], order == 2 ? pour[2] - 4 : pour[2]);
                }
                for (int time = 0; time < pours.length && order == 2; time++) {
                    beach.pour(pours[time][0], pours[time][1], 4);
                }
                seen[order] = Views.HEIGHTS.of(beach) + Views.FLOWS.of(beach);
            }
            sentence.same("the last pour first, beach " + i, seen[1], seen[0]);
            sentence.same("in parts, beach " + i, seen[2], seen[0]);
        }
        for (int seed = 0; seed < 40; seed++) {
            drawnOrder(sentence, seed);
        }
    }

    /** The plain beach draws by lot which cell topples. */
    private static void drawnOrder(Sentence sentence, int seed) {
        Random lots = new Random(seed);
        Sandpiper beach = new Sandpiper();
        PlainBeach plain = new PlainBeach();
        for (int time = 0; time < 20; time++) {
            int column = lots.nextInt(6);
            int row = lots.nextInt(7);
            int grains = 1 + lots.nextInt(60);
            beach.pour(column, row, grains);
            plain.pour(column, row, grains);
        }
        sentence.same("drawn by lot, seed " + seed, Views.picture(beach), plain.picture());
    }

    private void flowing() {
        Sentence sentence = document.term("Sliding", "Grains that go over a side when a cell topples flow over it");
        for (char side : Beaches.SIDES.toCharArray()) {
            sentence.answers("one topples, " + side, b -> b.pour(2, 3, 4), b -> b.flow(2, 3, side), 1);
            sentence.answers("six times, and once back, " + side, b -> b.pour(2, 3, 20), b -> b.flow(2, 3, side), 6 - 1);
        }
        sentence.answers("after uprooting", b -> { b.plant(2, 3); b.pour(2, 3, 4); b.uproot(2, 3); },
                b -> b.flow(2, 3, 's'), 1);
        sentence.answers("after a wave", Beaches.column(2, "375"),
                b -> b.wave(2, 9) + " " + b.flow(2, 1, 'e') + " " + b.flow(2, 1, 's'), "2 1 1");
        sentence.answers("after wind", b -> { b.pour(1, 5, 3); b.pour(1, 6, 3); },
                b -> b.wind(3) + " " + b.flow(1, 6, 's') + b.flow(1, 6, 'w') + b.flow(1, 6, 'e') + b.flow(1, 5, 'l'),
                        "1 111-1");
        sentence.answers("into the sea", b -> b.pour(3, 0, 4), b -> b.flow(3, 0, 's') + " " + b.sea(), "1 1");
    }

    private void notFlowing() {
        Sentence sentence = document.term("Sliding", "what waves and wind move does not");
        sentence.answers("a wave that stops", Beaches.column(2, "3000000"), b -> b.wave(2, 4) + " " + Beaches.heights(b, 2)
                + " " + Views.FLOWS.of(b).equals("0 ".repeat(168)), "4 2001000 true");
        sentence.answers("a wave that is thrown back", Beaches.column(2, "3333333"), b -> b.wave(2, 60) + " " + b.sea()
                + " " + Views.FLOWS.of(b).equals("0 ".repeat(168)), "7 14 true");
        sentence.answers("wind", Beaches.column(2, "3210000"), b -> b.wind(1) + " " + Beaches.heights(b, 2)
                + " " + Views.FLOWS.of(b).equals("0 ".repeat(168)), "3 2211000 true");
        sentence.answers("pouring and digging", Beaches.column(2, "3210000"), b -> b.dig(2, 0, 1)
                + " " + Views.FLOWS.of(b).equals("0 ".repeat(168)), "2 true");
    }
}
