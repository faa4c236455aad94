/** Promises 1 to 7: a new object, pour, dig, and what would topple and be lost. */
final class SandTest {
    interface Pouring {
        int answer(Sandpiper beach, int column, int row, int grains);
    }

    static void run(Check check) {
        newObject(check);
        pour(check);
        pourOnPlants(check);
        pourBesideWalls(check);
        dig(check);
        trials(check);
        wrongGrains(check, "pour", Sandpiper::pour);
        wrongGrains(check, "dig", Sandpiper::dig);
        wrongGrains(check, "topplesIf", Sandpiper::topplesIf);
        wrongGrains(check, "topplesIfBySweeps", Sandpiper::topplesIfBySweeps);
        wrongGrains(check, "lostIf", Sandpiper::lostIf);
        wrongGrains(check, "lostIfBySweeps", Sandpiper::lostIfBySweeps);
    }

    private static void newObject(Check check) {
        Sandpiper beach = new Sandpiper();
        StringBuilder due = new StringBuilder();
        for (int column = 0; column < 6; column++) {
            for (int row = 0; row < 7; row++) {
                due.append("0b0 0").append(row == 6 ? "|0" : " 0");
                due.append(column == 0 ? "|0" : " 0").append(column == 5 ? "|0" : " 0").append("; ");
            }
        }
        check.same("1: a new beach", Check.picture(beach), due + "0 0 0");
        check.same("1: a new storm", beach.clearStorm(), 0);
        Sandpiper other = new Sandpiper();
        other.pour(1, 1, 3);
        check.same("1: beaches of their own", new Sandpiper().height(1, 1), 0);
    }

    private static void pour(Check check) {
        Sandpiper beach = new Sandpiper();
        check.same("2: below the limit", beach.pour(2, 3, 3), 0);
        check.same("2: they stay", beach.height(2, 3), 3);
        check.same("2: at the limit", beach.pour(2, 3, 1), 1);
        check.same("2: toppled", beach.height(2, 3), 0);
        check.same("2: to s", beach.height(2, 2), 1);
        check.same("2: to l", beach.height(2, 4), 1);
        check.same("2: to w", beach.height(1, 3), 1);
        check.same("2: to e", beach.height(3, 3), 1);
        check.same("2: the corner keeps two", beach.pour(0, 6, 4) * 10 + beach.height(0, 6), 12);
        check.same("2: by the sea", beach.pour(5, 0, 4) * 10 + beach.height(5, 0), 11);
        check.same("2: one into the sea", beach.sea(), 1);
        check.answers("2: the most", Check.NOTHING, b -> b.pour(0, 6, 60), 253);
        check.answers("2: a neighbour topples too", b -> b.pour(3, 3, 3), b -> b.pour(2, 3, 4), 2);
        check.answers("2: many at once", Check.NOTHING, b -> b.pour(2, 3, 20), 10);
    }

    private static void pourOnPlants(Check check) {
        Check.Setup planted = b -> b.plant(2, 3);
        check.answers("2: planted, 7 stay", planted, b -> b.pour(2, 3, 7) * 10 + b.height(2, 3), 7);
        check.answers("2: planted, 8 topple once", planted, b -> b.pour(2, 3, 8) * 10 + b.height(2, 3), 14);
        check.answers("2: planted, 11 topple once", planted, b -> b.pour(2, 3, 11) * 10 + b.height(2, 3), 17);
        check.answers("2: planted, 12 topple twice", planted, b -> b.pour(2, 3, 12) * 10 + b.height(2, 3), 24);
    }

    private static void pourBesideWalls(Check check) {
        Check.Setup walls = b -> {
            b.addWall(2, 3, 'l');
            b.addWall(2, 3, 'e');
            b.addWall(2, 3, 'w');
        };
        check.answers("2: one open side", walls, b -> b.pour(2, 3, 5) * 100 + b.height(2, 3) * 10 + b.height(2, 2), 232);
        check.answers("2: none over a wall", walls, b -> b.pour(2, 3, 5) + b.height(2, 4) + b.height(1, 3) + b.height(3, 3), 2);
        Check.Setup dam = b -> b.addWall(3, 0, 's');
        check.answers("2: none over a dam", dam, b -> b.pour(3, 0, 4) * 100 + b.height(3, 0) * 10 + b.sea(), 110);
    }

    private static void dig(Check check) {
        Check.Setup three = b -> b.pour(4, 5, 3);
        check.answers("3: one of three", three, b -> b.dig(4, 5, 1), 2);
        check.answers("3: all", three, b -> b.dig(4, 5, 3), 0);
        check.answers("3: kept", three, b -> b.dig(4, 5, 2) * 10 + b.height(4, 5), 11);
        check.answers("3: out of plants", b -> { b.plant(4, 5); b.pour(4, 5, 7); }, b -> b.dig(4, 5, 6), 1);
        check.answers("3: taken away", three, b -> b.dig(4, 5, 2) + 10 * b.brought() + 100 * b.sand() + 1000 * b.sea(), 111);
        check.refuses("3: fewer", three, b -> b.dig(4, 5, 4), "NoSuchElementException");
        check.refuses("3: none", Check.NOTHING, b -> b.dig(4, 5, 1), "NoSuchElementException");
        check.refuses("3: 60 of three", three, b -> b.dig(4, 5, 60), "NoSuchElementException");
        check.refuses("3: the number before the few", three, b -> b.dig(4, 5, 61), "IllegalArgumentException");
    }

    private static void trials(Check check) {
        Check.Setup ready = b -> {
            b.plant(1, 1);
            b.addWall(4, 0, 's');
            b.addWall(2, 4, 'e');
            b.pour(0, 6, 60);
            b.pour(4, 1, 50);
        };
        for (int column = 0; column < 6; column++) {
            for (int row = 0; row < 7; row++) {
                trial(check, ready, column, row, 1);
                trial(check, ready, column, row, 7 + row);
                trial(check, ready, column, row, 60);
            }
        }
        check.answers("4: one topples", b -> b.pour(0, 0, 3), b -> b.topplesIf(0, 0, 1), 1);
        check.answers("5: one topples", b -> b.pour(0, 0, 3), b -> b.topplesIfBySweeps(0, 0, 1), 1);
        check.answers("6: one is lost", b -> b.pour(0, 0, 3), b -> b.lostIf(0, 0, 1), 1);
        check.answers("7: one is lost", b -> b.pour(0, 0, 3), b -> b.lostIfBySweeps(0, 0, 1), 1);
        check.answers("4: none topples", Check.NOTHING, b -> b.topplesIf(0, 0, 3), 0);
        check.answers("5: none topples", Check.NOTHING, b -> b.topplesIfBySweeps(0, 0, 3), 0);
        check.answers("6: none is lost", Check.NOTHING, b -> b.lostIf(3, 3, 20), 0);
        check.answers("7: none is lost", Check.NOTHING, b -> b.lostIfBySweeps(3, 3, 20), 0);
    }

    private static void trial(Check check, Check.Setup setup, int column, int row, int grains) {
        Sandpiper beach = new Sandpiper();
        setup.prepare(beach);
        int before = beach.sea();
        int topples = beach.topplesIf(column, row, grains);
        int topplesBySweeps = beach.topplesIfBySweeps(column, row, grains);
        int lost = beach.lostIf(column, row, grains);
        int lostBySweeps = beach.lostIfBySweeps(column, row, grains);
        Sandpiper untouched = new Sandpiper();
        setup.prepare(untouched);
        String where = " at " + column + "," + row + " with " + grains;
        check.same("4 to 7: nothing changes" + where, Check.picture(beach), Check.picture(untouched));
        Sandpiper poured = new Sandpiper();
        setup.prepare(poured);
        int due = poured.pour(column, row, grains);
        check.same("4" + where, topples, due);
        check.same("5" + where, topplesBySweeps, due);
        check.same("6" + where, lost, poured.sea() - before);
        check.same("7" + where, lostBySweeps, poured.sea() - before);
    }

    private static void wrongGrains(Check check, String name, Pouring call) {
        Check.Setup sandy = b -> b.pour(0, 0, 2);
        int[][] cells = {{-1, 0}, {6, 0}, {0, -1}, {0, 7}, {6, 7}, {Integer.MIN_VALUE, 0}, {0, Integer.MAX_VALUE}};
        for (int[] cell : cells) {
            String what = name + " at " + cell[0] + "," + cell[1];
            check.refuses(what, sandy, b -> call.answer(b, cell[0], cell[1], 1), "IndexOutOfBoundsException");
            check.refuses(what + ", wrong number", sandy, b -> call.answer(b, cell[0], cell[1], 0), "IndexOutOfBoundsException");
        }
        for (int grains : new int[] {0, 61, -1, Integer.MIN_VALUE, Integer.MAX_VALUE}) {
            check.refuses(name + " of " + grains, sandy, b -> call.answer(b, 0, 0, grains), "IllegalArgumentException");
        }
        // The last cell and the least number are good; dig has nothing there to take.
        Object due = name.equals("dig") ? "throws.NoSuchElementException" : 0;
        check.answers(name + " at 5,6", sandy, b -> call.answer(b, 5, 6, 1), due);
    }
}
