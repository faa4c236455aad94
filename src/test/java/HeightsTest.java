/** Promises 19 to 24: height, heightByFlows, flow, topplings, highest, roughness. */
final class HeightsTest {
    static void run(Check check) {
        height(check);
        heightByFlows(check);
        flow(check);
        topplings(check);
        highest(check);
        roughness(check);
        PlantsAndWallsTest.wrongCells(check, "height", (b, c, r) -> b.height(c, r));
        PlantsAndWallsTest.wrongCells(check, "heightByFlows", (b, c, r) -> b.heightByFlows(c, r));
        PlantsAndWallsTest.wrongCells(check, "topplings", (b, c, r) -> b.topplings(c, r));
        PlantsAndWallsTest.wrongSides(check, "flow", (b, c, r, s) -> b.flow(c, r, s));
        for (int column : new int[] {-1, 6, 42, Integer.MIN_VALUE, Integer.MAX_VALUE}) {
            check.refuses("highest of " + column, b -> b.pour(0, 0, 1), b -> b.highest(column), "IndexOutOfBoundsException");
            check.refuses("roughness of " + column, b -> b.pour(0, 0, 1), b -> b.roughness(column), "IndexOutOfBoundsException");
        }
    }

    private static void height(Check check) {
        check.answers("19: poured", b -> b.pour(5, 6, 3), b -> b.height(5, 6), 3);
        check.answers("19: of its own cell", b -> b.pour(5, 6, 3), b -> b.height(4, 6) + b.height(5, 5), 0);
        check.answers("19: dug", b -> { b.pour(0, 0, 3); b.dig(0, 0, 2); }, b -> b.height(0, 0), 1);
        check.answers("19: a column is no row", b -> b.pour(1, 4, 2), b -> b.height(1, 4) * 10 + b.height(4, 1), 20);
    }

    private static void heightByFlows(Check check) {
        Check.Setup busy = b -> {
            b.plant(2, 1);
            b.pour(2, 1, 60);
            b.pour(5, 6, 60);
            b.dig(2, 1, 3);
            b.wave(2, 40);
            b.addWall(2, 2, 'l');
            b.wave(2, 60);
            b.wave(3, 4);
            b.wind(1);
            b.uproot(2, 1);
            b.removeWall(2, 3, 's');
            b.pour(0, 0, 44);
            b.addWall(0, 0, 's');
        };
        for (int cell = 0; cell < 42; cell++) {
            int column = cell % 6;
            int row = cell / 6;
            Sandpiper beach = new Sandpiper();
            busy.prepare(beach);
            check.same("20: the same height at " + column + "," + row, beach.heightByFlows(column, row), beach.height(column, row));
        }
        check.answers("20: poured", b -> b.pour(1, 1, 3), b -> b.heightByFlows(1, 1), 3);
        check.answers("20: toppled", b -> b.pour(1, 1, 5), b -> b.heightByFlows(1, 1) * 10 + b.heightByFlows(1, 2), 11);
        check.answers("20: dug", b -> { b.pour(1, 1, 3); b.dig(1, 1, 1); }, b -> b.heightByFlows(1, 1), 2);
        check.answers("20: by waves", b -> { b.pour(1, 0, 3); b.wave(1, 4); }, b -> b.heightByFlows(1, 0) * 10 + b.heightByFlows(1, 3), 21);
        check.answers("20: by wind", b -> { b.pour(1, 0, 3); b.wind(1); }, b -> b.heightByFlows(1, 0) * 10 + b.heightByFlows(1, 1), 21);
    }

    private static void flow(Check check) {
        Check.Setup one = b -> b.pour(2, 3, 4);
        for (char side : new char[] {'s', 'l', 'w', 'e'}) {
            check.answers("21: out over " + side, one, b -> b.flow(2, 3, side), 1);
        }
        check.answers("21: in from the land", one, b -> b.flow(2, 2, 'l'), -1);
        check.answers("21: in from the sea's side", one, b -> b.flow(2, 4, 's'), -1);
        check.answers("21: in from the east", one, b -> b.flow(1, 3, 'e'), -1);
        check.answers("21: in from the west", one, b -> b.flow(3, 3, 'w'), -1);
        check.answers("21: elsewhere", one, b -> b.flow(2, 2, 's'), 0);
        check.answers("21: both ways", b -> { b.pour(2, 3, 4); b.pour(3, 3, 3); }, b -> b.flow(2, 3, 'e') + b.flow(3, 3, 'w'), 0);
        check.answers("21: there and back", b -> { b.pour(2, 3, 4); b.pour(3, 3, 3); }, b -> b.flow(2, 3, 'e') * 10 + b.flow(3, 3, 'e'), 1);
        check.answers("21: into the sea", b -> b.pour(2, 0, 9), b -> b.flow(2, 0, 's'), 2);
        check.answers("21: over the edges", b -> { b.pour(0, 6, 40); b.pour(5, 0, 40); },
                b -> b.flow(0, 6, 'l') + b.flow(0, 6, 'w') + b.flow(5, 0, 'e'), 0);
        check.answers("21: a wall stops it", b -> { b.addWall(2, 3, 'e'); b.pour(2, 3, 4); }, b -> b.flow(2, 3, 'e') + b.flow(3, 3, 'w'), 0);
        check.answers("21: it stays behind a wall", b -> { b.pour(2, 3, 4); b.addWall(2, 3, 'e'); }, b -> b.flow(2, 3, 'e') * 10 + b.flow(3, 3, 'w'), 9);
        check.answers("21: waves do not flow", b -> { b.pour(2, 0, 3); b.wave(2, 4); }, b -> b.flow(2, 0, 'l') + b.flow(2, 0, 's') + b.flow(2, 3, 's'), 0);
        check.answers("21: wind does not flow", b -> { b.pour(2, 0, 3); b.wind(1); }, b -> b.flow(2, 0, 'l') + b.flow(2, 1, 's'), 0);
        check.answers("21: trials do not flow", b -> { b.topplesIf(2, 3, 4); b.lostIfBySweeps(2, 3, 4); }, b -> b.flow(2, 3, 's'), 0);
    }

    private static void topplings(Check check) {
        check.answers("22: none", b -> b.pour(2, 3, 3), b -> b.topplings(2, 3), 0);
        check.answers("22: once", b -> b.pour(2, 3, 4), b -> b.topplings(2, 3) * 10 + b.topplings(2, 2), 10);
        check.answers("22: six times", b -> b.pour(2, 3, 20), b -> b.topplings(2, 3), 6);
        check.answers("22: in several calls", b -> { b.pour(2, 3, 4); b.pour(2, 3, 4); }, b -> b.topplings(2, 3), 2);
        check.answers("22: not in trials", b -> { b.topplesIf(2, 3, 40); b.topplesIfBySweeps(2, 3, 40); }, b -> b.topplings(2, 3), 0);
        Sandpiper beach = new Sandpiper();
        int due = beach.pour(0, 6, 60) + beach.pour(5, 5, 60) + beach.pour(3, 0, 60);
        int sum = 0;
        for (int cell = 0; cell < 42; cell++) {
            sum += beach.topplings(cell % 6, cell / 6);
        }
        check.same("22: the sum of all", sum, due);
    }

    private static void highest(Check check) {
        check.answers("23: an empty column", Check.NOTHING, b -> b.highest(4), 0);
        check.answers("23: the only one", WavesTest.heights(4, "0000020"), b -> b.highest(4), 5);
        check.answers("23: the last row", WavesTest.heights(4, "1111112"), b -> b.highest(4), 6);
        check.answers("23: of several the lowest row", WavesTest.heights(4, "0130313"), b -> b.highest(4), 2);
        check.answers("23: planted and high", WavesTest.heights(4, "3003700"), b -> b.highest(4), 4);
        check.answers("23: its own column", WavesTest.heights(4, "0000020"), b -> b.highest(3) + b.highest(5), 0);
    }

    private static void roughness(Check check) {
        check.answers("24: an empty column", Check.NOTHING, b -> b.roughness(0), 0);
        check.answers("24: even", WavesTest.heights(0, "2222222"), b -> b.roughness(0), 0);
        check.answers("24: up and down", WavesTest.heights(0, "1320133"), b -> b.roughness(0), 2 + 1 + 2 + 1 + 2);
        check.answers("24: the first and the last", WavesTest.heights(5, "3000002"), b -> b.roughness(5), 5);
        check.answers("24: its own column", WavesTest.heights(4, "3030303"), b -> b.roughness(5) * 100 + b.roughness(4), 18);
    }
}
