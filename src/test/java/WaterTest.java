/** Promises 25 to 31: flooded, floodedByRounds, isFlooded, sand, sea, brought, meanHeight. */
final class WaterTest {
    static void run(Check check) {
        flooded(check);
        isFlooded(check);
        wrongLevels(check);
        sums(check);
        meanHeight(check);
    }

    private static void both(Check check, String what, Check.Setup setup, int level, int due) {
        check.answers("25: " + what, setup, b -> b.flooded(level), due);
        check.answers("26: " + what, setup, b -> b.floodedByRounds(level), due);
    }

    private static void flooded(Check check) {
        both(check, "level 0", Check.NOTHING, 0, 0);
        both(check, "level 1 on bare ground", Check.NOTHING, 1, 42);
        both(check, "the highest level", WavesTest.heights(2, "7777777"), 20, 42);
        both(check, "at the height", WavesTest.heights(2, "3"), 3, 41);
        both(check, "above the height", WavesTest.heights(2, "3"), 4, 42);
        Check.Setup ridge = b -> {
            for (int column = 0; column < 6; column++) {
                b.pour(column, 2, 2);
            }
        };
        both(check, "ahead of a ridge", ridge, 2, 12);
        both(check, "over a ridge", ridge, 3, 42);
        both(check, "through a gap", b -> { ridge.prepare(b); b.dig(5, 2, 1); }, 2, 37);
        Check.Setup dams = b -> {
            for (int column = 0; column < 5; column++) {
                b.addWall(column, 0, 's');
            }
        };
        both(check, "round the dams", dams, 1, 42);
        both(check, "behind the dams", b -> { dams.prepare(b); b.pour(5, 0, 1); }, 1, 0);
        // A way that goes to the land and back: it takes many rounds.
        Check.Setup maze = b -> {
            dams.prepare(b);
            for (int row = 0; row < 6; row++) {
                b.addWall(4, row, 'e');
            }
            for (int row = 1; row < 7; row++) {
                b.addWall(3, row, 'e');
            }
        };
        both(check, "round the walls", maze, 1, 42);
        both(check, "round the walls, up to a hill", b -> { maze.prepare(b); b.pour(4, 2, 1); }, 1, 11);
        both(check, "round the walls, a lake", b -> { maze.prepare(b); b.pour(4, 0, 1); }, 1, 13);
        both(check, "no way over corners", b -> { b.pour(1, 0, 1); b.addWall(0, 0, 's'); b.pour(0, 1, 1); }, 1, 39);
        check.answers("25: nothing changes", ridge, b -> { b.flooded(3); b.floodedByRounds(3); return Check.picture(b); }, picture(ridge));
    }

    private static String picture(Check.Setup setup) {
        Sandpiper beach = new Sandpiper();
        setup.prepare(beach);
        return Check.picture(beach);
    }

    private static void isFlooded(Check check) {
        Check.Setup lake = b -> { b.pour(1, 0, 1); b.addWall(0, 0, 's'); b.pour(0, 1, 1); };
        check.answers("27: a lake without a way", lake, b -> b.isFlooded(0, 0, 1), false);
        check.answers("27: the way is under water", lake, b -> b.isFlooded(0, 0, 2), true);
        check.answers("27: the water", lake, b -> b.isFlooded(5, 6, 1), true);
        check.answers("27: the hill", lake, b -> b.isFlooded(1, 0, 1), false);
        check.answers("27: level 0", lake, b -> b.isFlooded(5, 6, 0), false);
        check.answers("27: level 20", lake, b -> b.isFlooded(5, 6, 20), true);
        check.answers("27: after another level", lake, b -> b.flooded(20) * 10 + (b.isFlooded(0, 0, 1) ? 1 : 0), 420);
    }

    private static void wrongLevels(Check check) {
        Check.Setup sandy = b -> b.pour(0, 0, 3);
        for (int level : new int[] {-1, 21, Integer.MIN_VALUE, Integer.MAX_VALUE}) {
            check.refuses("25: level " + level, sandy, b -> b.flooded(level), "IllegalArgumentException");
            check.refuses("26: level " + level, sandy, b -> b.floodedByRounds(level), "IllegalArgumentException");
            check.refuses("27: level " + level, sandy, b -> b.isFlooded(0, 0, level), "IllegalArgumentException");
            check.refuses("27: the cell before level " + level, sandy, b -> b.isFlooded(6, 0, level), "IndexOutOfBoundsException");
        }
        PlantsAndWallsTest.wrongCells(check, "isFlooded", (b, c, r) -> b.isFlooded(c, r, 5));
    }

    private static void sums(Check check) {
        Sandpiper beach = new Sandpiper();
        check.same("28 to 30: at first", beach.sand() + " " + beach.sea() + " " + beach.brought(), "0 0 0");
        beach.pour(2, 0, 5);
        check.same("28 to 30: poured", beach.sand() + " " + beach.sea() + " " + beach.brought(), "4 1 5");
        beach.dig(2, 1, 1);
        check.same("28 to 30: dug", beach.sand() + " " + beach.sea() + " " + beach.brought(), "3 1 4");
        beach.wave(1, 60);
        check.same("28 to 30: a wave", beach.sand() + " " + beach.sea() + " " + beach.brought(), "2 2 4");
        beach.wind(1);
        check.same("28 to 30: wind", beach.sand() + " " + beach.sea() + " " + beach.brought(), "2 2 4");
        beach.lostIf(0, 0, 60);
        check.same("28 to 30: a trial", beach.sand() + " " + beach.sea() + " " + beach.brought(), "2 2 4");
        beach.plant(4, 0);
        beach.pour(4, 0, 7);
        beach.uproot(4, 0);
        check.same("28 to 30: uprooted", beach.sand() + " " + beach.sea() + " " + beach.brought(), "8 3 11");
    }

    private static void meanHeight(Check check) {
        check.answers("31: at first", Check.NOTHING, b -> b.meanHeight(), 0.0f);
        check.answers("31: one grain", b -> b.pour(0, 0, 1), b -> b.meanHeight(), 1f / 42f);
        check.answers("31: 25 grains", b -> b.pour(2, 3, 25), b -> b.meanHeight(), 25f / 42f);
        check.answers("31: not what is in the sea", b -> b.pour(2, 0, 4), b -> b.meanHeight(), 3f / 42f);
        check.answers("31: in float", b -> b.pour(2, 3, 25), b -> (double) b.meanHeight(), 0.5952380895614624);
        check.answers("31: one on each", b -> {
            for (int cell = 0; cell < 42; cell++) {
                b.pour(cell % 6, cell / 6, 1);
            }
        }, b -> b.meanHeight(), 1.0f);
    }
}
