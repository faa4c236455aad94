/** The longest ways to the sea: settling must come to its end there too, in both orders. */
final class HardCasesTest {
    static void run(Check check) {
        snake(check, false);
        snake(check, true);
        fullSnake(check);
        comb(check);
    }

    /** The same walls as Beaches.SNAKE has. */
    private static void buildSnake(PlainBeach plain) {
        for (int column = 0; column < 5; column++) {
            plain.addWall(column, 0, 's');
            for (int row = 0; row < 7; row++) {
                if (row != (column % 2 == 0 ? 0 : 6)) {
                    plain.addWall(column, row, 'e');
                }
            }
        }
    }

    /** All cells full on the longest way: the most topplings that one call can need. */
    private static void fullSnake(Check check) {
        Sandpiper beach = Beaches.ready(Beaches.SNAKE);
        PlainBeach plain = new PlainBeach();
        buildSnake(plain);
        for (int cell = 0; cell < 42; cell++) {
            beach.plant(cell % 6, cell / 6);
            plain.plant(cell % 6, cell / 6);
            beach.pour(cell % 6, cell / 6, 7);
            plain.pour(cell % 6, cell / 6, 7);
        }
        for (int time = 0; time < 3; time++) {
            check.same("full snake, by sweeps", beach.topplesIfBySweeps(0, 6, 60), beach.topplesIf(0, 6, 60));
            check.same("full snake, poured", beach.pour(0, 6, 60), plain.pour(0, 6, 60));
        }
        for (int cell = 0; cell < 42; cell++) {
            check.same("full snake, uprooted", beach.uproot(cell % 6, cell / 6), plain.uproot(cell % 6, cell / 6));
        }
        check.same("full snake, sea", beach.sea(), plain.sea());
        for (int cell = 0; cell < 42; cell++) {
            int column = cell % 6;
            int row = cell / 6;
            check.same("full snake, height", beach.height(column, row), plain.height(column, row));
            check.same("full snake, topplings", beach.topplings(column, row), plain.topplings(column, row));
        }
    }

    private static void snake(Check check, boolean planted) {
        Sandpiper beach = Beaches.ready(Beaches.SNAKE);
        for (int cell = 0; cell < 42 && planted; cell++) {
            beach.plant(cell % 6, cell / 6);
            beach.pour(cell % 6, cell / 6, 7);
        }
        for (int time = 0; time < 30; time++) {
            int topples = beach.topplesIf(0, 6, 60);
            check.same("snake, by sweeps", beach.topplesIfBySweeps(0, 6, 60), topples);
            int lost = beach.lostIf(0, 6, 60);
            check.same("snake, lost by sweeps", beach.lostIfBySweeps(0, 6, 60), lost);
            int before = beach.sea();
            check.same("snake, poured", beach.pour(0, 6, 60), topples);
            check.same("snake, lost", beach.sea() - before, lost);
        }
        for (int cell = 0; cell < 42 && planted; cell++) {
            beach.uproot(cell % 6, cell / 6);
        }
        for (int cell = 0; cell < 42; cell++) {
            int column = cell % 6;
            int row = cell / 6;
            check.same("snake, at rest", beach.height(column, row) < 4, true);
            check.same("snake, by flows", beach.heightByFlows(column, row), beach.height(column, row));
        }
        check.same("snake, nothing is lost", beach.sand() + beach.sea(), beach.brought());
    }

    /** The sea at one corner alone, and no other walls. */
    private static void comb(Check check) {
        Sandpiper beach = new Sandpiper();
        PlainBeach plain = new PlainBeach();
        for (int column = 1; column < 6; column++) {
            beach.addWall(column, 0, 's');
            plain.addWall(column, 0, 's');
        }
        for (int time = 0; time < 12; time++) {
            check.same("one way to the sea", beach.pour(5, 6, 60), plain.pour(5, 6, 60));
        }
        check.same("one way to the sea, at last", Views.picture(beach), plain.picture());
    }
}
