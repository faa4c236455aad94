/** Promises 14 to 18: wave, wind, addStep, clearStorm, storm. */
final class WavesTest {
    private static final int[] WRONG_ENERGIES = {0, 61, -1, Integer.MIN_VALUE, Integer.MAX_VALUE};
    private static final int[] WRONG_COLUMNS = {-1, 6, 42, Integer.MIN_VALUE, Integer.MAX_VALUE};

    static void run(Check check) {
        energy(check);
        stopped(check);
        thrownBack(check);
        planted(check);
        settled(check);
        wind(check);
        addStep(check);
        clearStorm(check);
        storm(check);
        wrong(check);
    }

    /** The heights of a column from the sea to the land, as digits. */
    static String column(Sandpiper beach, int column) {
        StringBuilder text = new StringBuilder();
        for (int row = 0; row < 7; row++) {
            text.append(beach.height(column, row));
        }
        return text.toString();
    }

    static Check.Setup heights(int column, String heights) {
        return b -> {
            for (int row = 0; row < heights.length(); row++) {
                int grains = heights.charAt(row) - '0';
                if (grains > 3) {
                    b.plant(column, row);
                }
                if (grains > 0) {
                    b.pour(column, row, grains);
                }
            }
        };
    }

    private static Check.Call wave(int column, int energy) {
        return b -> b.wave(column, energy) + " " + column(b, column) + " " + b.sea();
    }

    private static void energy(Check check) {
        for (int energy = 1; energy <= 8; energy++) {
            check.answers("14: on bare ground with " + energy, Check.NOTHING, wave(3, energy), Math.min(energy, 7) + " 0000000 0");
        }
        check.answers("14: the most energy", Check.NOTHING, wave(0, 60), "7 0000000 0");
        check.answers("14: not greater than the height", heights(2, "3"), wave(2, 3), "0 3000000 0");
        check.answers("14: just greater", heights(2, "3"), wave(2, 4), "4 2001000 0");
        check.answers("14: the energy decreases", heights(2, "0033"), wave(2, 5), "2 0033000 0");
        check.answers("14: a planted cell costs more", heights(2, "4"), wave(2, 5), "3 4000000 0");
        check.answers("14: by a quarter", heights(2, "7"), wave(2, 9), "7 7000000 0");
        check.answers("14: seven is one quarter", heights(2, "7"), wave(2, 8), "6 7000000 0");
        check.answers("14: a bare planted cell", b -> b.plant(2, 0), wave(2, 1), "1 0000000 0");
        check.answers("14: energy below 0 stops", b -> { b.plant(2, 0); b.plant(2, 1); }, wave(2, 3), "2 0000000 0");
    }

    private static void stopped(Check check) {
        check.answers("14: takes and drops", heights(2, "2220000"), wave(2, 5), "5 1121100 0");
        check.answers("14: the last one first", heights(2, "1000000"), wave(2, 4), "4 0001000 0");
        check.answers("14: drops as long as it has load", heights(2, "1110000"), wave(2, 5), "5 0011100 0");
        check.answers("14: stops at the second", heights(2, "2030000"), wave(2, 4), "2 1130000 0");
        check.answers("14: dropped where it was taken", heights(2, "3330000"), wave(2, 4), "1 3330000 0");
    }

    private static void thrownBack(Check check) {
        check.answers("14: off the edge in the land", heights(2, "2121000"), wave(2, 60), "7 0000000 6");
        check.answers("14: a grain in the last row", heights(2, "0000003"), wave(2, 60), "7 0000001 2");
        Check.Setup wall = b -> { heights(2, "3213000").prepare(b); b.addWall(2, 2, 'l'); };
        check.answers("14: off a wall", wall, wave(2, 60), "3 1003000 5");
        Check.Setup dam = b -> { heights(2, "3213000").prepare(b); b.addWall(2, 0, 's'); };
        check.answers("14: off a dam", dam, wave(2, 60), "0 3213000 0");
        check.answers("14: the wall ahead of the height", wall, wave(2, 6), "3 1003000 5");
        check.answers("14: the wall even without energy", b -> { heights(2, "2").prepare(b); b.addWall(2, 3, 's'); },
                wave(2, 3), "3 0000000 2");
        check.answers("14: walls beside do not matter", b -> { heights(2, "3").prepare(b); b.addWall(2, 0, 'e'); b.addWall(2, 0, 'w'); },
                wave(2, 60), "7 1000000 2");
        check.answers("14: nothing flows", heights(2, "3333333"), b -> b.wave(2, 60) * 100 + b.sea() + b.flow(2, 0, 's'), 714);
    }

    private static void planted(Check check) {
        check.answers("14: plants hold, thrown back", b -> { heights(2, "33").prepare(b); b.plant(2, 0); }, wave(2, 60), "7 3100000 2");
        check.answers("14: plants hold, stopped", b -> { heights(2, "33").prepare(b); b.plant(2, 0); }, wave(2, 6), "5 3200100 0");
        check.answers("14: dropped on plants", b -> { heights(2, "3").prepare(b); b.plant(2, 2); }, wave(2, 4), "3 2010000 0");
    }

    private static void settled(Check check) {
        Check.Setup drop = heights(2, "375");
        check.answers("14: a drop lets plants topple", drop, wave(2, 9), "2 3460000 0");
        check.answers("14: counted", drop, b -> b.wave(2, 9) * 100 + b.topplings(2, 1) * 10 + b.flow(2, 1, 'e'), 211);
        check.answers("14: over the side", drop, b -> b.wave(2, 9) * 10 + b.height(1, 1), 21);
        check.answers("14: just below the limit", heights(2, "365"), wave(2, 9), "2 2750000 0");
    }

    private static void wind(Check check) {
        Check.Setup sandy = b -> { heights(2, "1230123").prepare(b); heights(4, "0500000").prepare(b); };
        check.answers("15: from one on", sandy, b -> b.wind(1) + " " + column(b, 2) + " " + column(b, 4), "5 0231031 0500000");
        check.answers("15: from two on", sandy, b -> b.wind(2) + " " + column(b, 2), "3 1131121");
        check.answers("15: from three on", sandy, b -> b.wind(3) + " " + column(b, 2), "1 1221123");
        check.answers("15: from four on", sandy, b -> b.wind(4) + " " + column(b, 2), "0 1230123");
        check.answers("15: from nine on", sandy, b -> b.wind(9) + " " + column(b, 4), "0 0500000");
        check.answers("15: all at the same time", heights(1, "1"), b -> b.wind(1) + " " + column(b, 1), "1 0100000");
        check.answers("15: by the heights before", heights(1, "11"), b -> b.wind(2) + " " + column(b, 1), "0 1100000");
        check.answers("15: given to a lower one", heights(1, "21"), b -> b.wind(2) + " " + column(b, 1), "1 1200000");
        check.answers("15: not over a wall", b -> { heights(1, "11").prepare(b); b.addWall(1, 0, 'l'); },
                b -> b.wind(1) + " " + column(b, 1), "1 1010000");
        check.answers("15: not from the last row", heights(1, "0000003"), b -> b.wind(1) + " " + column(b, 1), "0 0000003");
        check.answers("15: to plants", b -> { b.plant(1, 1); b.pour(1, 0, 1); }, b -> b.wind(1) + " " + column(b, 1), "1 0100000");
        check.answers("15: settles", b -> { b.pour(1, 5, 3); b.pour(1, 6, 3); },
                b -> b.wind(1) + " " + column(b, 1) + b.height(0, 6) + b.height(2, 6) + b.flow(1, 6, 's') + b.flow(1, 5, 'l'), "1 0000031111-1");
        for (int least : new int[] {0, 10, -1, Integer.MIN_VALUE, Integer.MAX_VALUE}) {
            check.refuses("15: least " + least, sandy, b -> b.wind(least), "IllegalArgumentException");
        }
    }

    private static void addStep(Check check) {
        Sandpiper beach = new Sandpiper();
        for (int step = 1; step <= 8; step++) {
            check.same("16: step " + step, beach.addStep(step % 6, 60 / step), step);
        }
        Check.Setup eight = b -> {
            for (int step = 1; step <= 8; step++) {
                b.addStep(0, step);
            }
        };
        check.refuses("16: the ninth", eight, b -> b.addStep(0, 1), "IllegalStateException");
        check.refuses("16: the column before the eight", eight, b -> b.addStep(6, 0), "IndexOutOfBoundsException");
        check.refuses("16: the energy before the eight", eight, b -> b.addStep(5, 0), "IllegalArgumentException");
        check.answers("16: after clearing", eight, b -> b.clearStorm() * 10 + b.addStep(0, 1), 81);
        check.answers("16: nothing comes yet", heights(2, "333"), b -> b.addStep(2, 60) + " " + column(b, 2), "1 3330000");
    }

    private static void clearStorm(Check check) {
        Check.Setup two = b -> { b.addStep(1, 1); b.addStep(1, 1); };
        check.answers("17: none", Check.NOTHING, b -> b.clearStorm(), 0);
        check.answers("17: two", two, b -> b.clearStorm(), 2);
        check.answers("17: then none", two, b -> b.clearStorm() * 10 + b.clearStorm(), 20);
        check.answers("17: not by a storm", two, b -> b.storm(1) * 10 + b.clearStorm(), 2);
        check.refuses("17: then no storm", b -> { two.prepare(b); b.clearStorm(); }, b -> b.storm(1), "IllegalStateException");
    }

    private static void storm(Check check) {
        Check.Setup one = b -> { heights(2, "3333333").prepare(b); b.addStep(2, 60); };
        check.answers("18: once", one, b -> b.storm(1) + " " + column(b, 2), "14 1111111");
        check.answers("18: twice", one, b -> b.storm(2) + " " + column(b, 2), "21 0000000");
        check.answers("18: five times", one, b -> b.storm(5) + " " + column(b, 2), "21 0000000");
        check.answers("18: more than before", one, b -> b.storm(1) * 100 + b.storm(1), 1407);
        Check.Setup order = b -> { heights(2, "3").prepare(b); b.addStep(2, 4); b.addStep(2, 60); };
        check.answers("18: the steps in their order", order, b -> b.storm(1) + " " + column(b, 2), "3 0000000");
        Check.Setup rounds = b -> { heights(2, "3").prepare(b); b.addStep(2, 3); b.addStep(2, 4); };
        check.answers("18: round after round", rounds, b -> b.storm(2) + " " + column(b, 2), "0 0111000");
        Check.Setup eight = b -> {
            for (int step = 0; step < 8; step++) {
                heights(step % 6, step < 6 ? "0000002" : "").prepare(b);
                b.addStep(step % 6, 60);
            }
        };
        check.answers("18: all eight steps", eight, b -> b.storm(1) + " " + b.sand(), "12 0");
        check.answers("18: settles after each wave", b -> { heights(2, "375").prepare(b); b.addStep(2, 9); },
                b -> b.storm(1) + " " + column(b, 2), "0 3460000");
        check.refuses("18: no steps", heights(2, "333"), b -> b.storm(1), "IllegalStateException");
        for (int times : new int[] {0, 6, -1, Integer.MIN_VALUE, Integer.MAX_VALUE}) {
            check.refuses("18: times " + times, one, b -> b.storm(times), "IllegalArgumentException");
            check.refuses("18: no steps, times " + times, Check.NOTHING, b -> b.storm(times), "IllegalArgumentException");
        }
    }

    private static void wrong(Check check) {
        Check.Setup sandy = b -> { heights(0, "123").prepare(b); b.addStep(0, 9); };
        for (int column : WRONG_COLUMNS) {
            check.refuses("14: column " + column, sandy, b -> b.wave(column, 1), "IndexOutOfBoundsException");
            check.refuses("14: column first " + column, sandy, b -> b.wave(column, 0), "IndexOutOfBoundsException");
            check.refuses("16: column " + column, sandy, b -> b.addStep(column, 1), "IndexOutOfBoundsException");
            check.refuses("16: column first " + column, sandy, b -> b.addStep(column, 61), "IndexOutOfBoundsException");
        }
        for (int energy : WRONG_ENERGIES) {
            check.refuses("14: energy " + energy, sandy, b -> b.wave(0, energy), "IllegalArgumentException");
            check.refuses("16: energy " + energy, sandy, b -> b.addStep(0, energy), "IllegalArgumentException");
        }
        check.answers("14: the last column, the most energy", sandy, b -> b.wave(5, 60), 7);
        check.answers("16: the last column, the most energy", sandy, b -> b.addStep(5, 60), 2);
    }
}
