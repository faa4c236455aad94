/** Promises 8 to 13: plant, uproot, addWall, removeWall, isClosed, isPlanted. */
final class PlantsAndWallsTest {
    interface SideCall {
        Object answer(Sandpiper beach, int column, int row, char side);
    }

    interface CellCall {
        Object answer(Sandpiper beach, int column, int row);
    }

    static final int[][] NO_CELLS = {{-1, 3}, {6, 3}, {3, -1}, {3, 7}, {-1, -1}, {6, 7}, {0, 42}, {42, 0},
        {Integer.MIN_VALUE, Integer.MIN_VALUE}, {Integer.MAX_VALUE, Integer.MAX_VALUE}};

    static void run(Check check) {
        plant(check);
        uproot(check);
        addWall(check);
        cutOff(check);
        removeWall(check);
        isClosed(check);
        isPlanted(check);
        wrongSides(check, "addWall", (b, c, r, s) -> b.addWall(c, r, s));
        wrongSides(check, "removeWall", (b, c, r, s) -> b.removeWall(c, r, s));
        wrongSides(check, "isClosed", (b, c, r, s) -> b.isClosed(c, r, s));
    }

    private static void plant(Check check) {
        Sandpiper beach = new Sandpiper();
        check.same("8: the first", beach.plant(0, 0), 1);
        check.same("8: the second", beach.plant(5, 6), 2);
        check.same("8: after one less", beach.uproot(0, 0) * 10 + beach.plant(3, 3), 2);
        Check.Setup planted = b -> b.plant(2, 2);
        check.refuses("8: twice", planted, b -> b.plant(2, 2), "IllegalStateException");
        check.answers("8: again after uprooting", planted, b -> b.uproot(2, 2) + b.plant(2, 2), 1);
        check.answers("8: sand stays", b -> b.pour(1, 4, 3), b -> b.plant(1, 4) * 10 + b.height(1, 4), 13);
        wrongCells(check, "plant", (b, c, r) -> b.plant(c, r));
        Sandpiper full = new Sandpiper();
        for (int cell = 0; cell < 42; cell++) {
            check.same("8: all cells", full.plant(cell % 6, cell / 6), cell + 1);
        }
    }

    private static void uproot(Check check) {
        Check.Setup heavy = b -> { b.plant(2, 3); b.pour(2, 3, 7); };
        check.answers("9: slides", heavy, b -> b.uproot(2, 3) * 10 + b.height(2, 3), 13);
        check.answers("9: is bare", heavy, b -> { b.uproot(2, 3); return b.isPlanted(2, 3); }, false);
        check.answers("9: nothing to slide", b -> { b.plant(2, 3); b.pour(2, 3, 3); }, b -> b.uproot(2, 3), 0);
        check.answers("9: four grains slide", b -> { b.plant(2, 3); b.pour(2, 3, 4); }, b -> b.uproot(2, 3), 1);
        check.answers("9: counted", heavy, b -> { b.uproot(2, 3); return b.topplings(2, 3); }, 1);
        check.answers("9: flows", heavy, b -> { b.uproot(2, 3); return b.flow(2, 3, 'e'); }, 1);
        check.refuses("9: bare", heavy, b -> b.uproot(2, 4), "IllegalStateException");
        check.refuses("9: twice", b -> { b.plant(2, 3); b.uproot(2, 3); }, b -> b.uproot(2, 3), "IllegalStateException");
        wrongCells(check, "uproot", (b, c, r) -> b.uproot(c, r));
    }

    private static void addWall(Check check) {
        Sandpiper beach = new Sandpiper();
        check.same("10: the first", beach.addWall(2, 2, 'l'), 1);
        check.same("10: the second", beach.addWall(2, 2, 'e'), 2);
        check.same("10: a dam", beach.addWall(4, 0, 's'), 3);
        check.same("10: between columns", beach.addWall(4, 4, 'w'), 4);
        Check.Setup walls = b -> { b.addWall(2, 2, 'l'); b.addWall(2, 2, 'e'); b.addWall(4, 0, 's'); };
        check.refuses("10: twice", walls, b -> b.addWall(2, 2, 'l'), "IllegalStateException");
        check.refuses("10: twice, from behind", walls, b -> b.addWall(2, 3, 's'), "IllegalStateException");
        check.refuses("10: twice, from the east", walls, b -> b.addWall(3, 2, 'w'), "IllegalStateException");
        check.refuses("10: twice at the sea", walls, b -> b.addWall(4, 0, 's'), "IllegalStateException");
        check.refuses("10: the edge in the land", walls, b -> b.addWall(1, 6, 'l'), "IllegalStateException");
        check.refuses("10: the edge in the west", walls, b -> b.addWall(0, 3, 'w'), "IllegalStateException");
        check.refuses("10: the edge in the east", walls, b -> b.addWall(5, 3, 'e'), "IllegalStateException");
        check.answers("10: flows stay", b -> b.pour(2, 3, 4), b -> b.addWall(2, 3, 'e') * 10 + b.flow(2, 3, 'e'), 11);
    }

    private static void cutOff(Check check) {
        String refused = "UnsupportedOperationException";
        Check.Setup dams = b -> {
            for (int column = 0; column < 5; column++) {
                b.addWall(column, 0, 's');
            }
        };
        check.refuses("10: the last way to the sea", dams, b -> b.addWall(5, 0, 's'), refused);
        check.answers("10: counted still", dams, b -> Check.outcome(b, x -> x.addWall(5, 0, 's')).equals("throws." + refused)
                ? b.addWall(3, 3, 's') : -1, 6);
        Check.Setup corner = b -> b.addWall(0, 6, 's');
        check.refuses("10: a corner", corner, b -> b.addWall(0, 6, 'e'), refused);
        check.refuses("10: a corner from outside", corner, b -> b.addWall(1, 6, 'w'), refused);
        Check.Setup cutLine = b -> {
            for (int column = 0; column < 5; column++) {
                b.addWall(column, 4, 's');
            }
        };
        check.refuses("10: a part of the beach", cutLine, b -> b.addWall(5, 3, 'l'), refused);
        check.answers("10: not a part", cutLine, b -> b.addWall(5, 5, 'l'), 6);
        check.refuses("10: full of sand", b -> { corner.prepare(b); b.plant(1, 6); b.pour(1, 6, 7); },
                b -> b.addWall(0, 6, 'e'), refused);
        check.answers("10: high sand is a way", b -> { corner.prepare(b); b.plant(1, 6); b.pour(1, 6, 7); },
                b -> b.addWall(1, 6, 's'), 2);
    }

    private static void removeWall(Check check) {
        Check.Setup walls = b -> { b.addWall(2, 2, 'l'); b.addWall(2, 2, 'e'); b.addWall(4, 0, 's'); };
        check.answers("11: one", walls, b -> b.removeWall(2, 2, 'l'), 2);
        check.answers("11: from behind", walls, b -> b.removeWall(2, 3, 's'), 2);
        check.answers("11: from the east", walls, b -> b.removeWall(3, 2, 'w'), 2);
        check.answers("11: at the sea", walls, b -> b.removeWall(4, 0, 's'), 2);
        check.answers("11: open from both", walls, b -> { b.removeWall(2, 2, 'l');
            return b.isClosed(2, 2, 'l') || b.isClosed(2, 3, 's'); }, false);
        check.answers("11: the sea is back", walls, b -> { b.removeWall(4, 0, 's');
            return b.pour(4, 0, 4) * 10 + b.sea(); }, 11);
        check.answers("11: built again", walls, b -> b.removeWall(2, 2, 'l') * 10 + b.addWall(2, 3, 's'), 23);
        check.refuses("11: no wall", walls, b -> b.removeWall(2, 2, 's'), "NoSuchElementException");
        check.refuses("11: no wall at the sea", walls, b -> b.removeWall(3, 0, 's'), "NoSuchElementException");
        check.refuses("11: the edge in the land", walls, b -> b.removeWall(1, 6, 'l'), "NoSuchElementException");
        check.refuses("11: the edge in the west", walls, b -> b.removeWall(0, 1, 'w'), "NoSuchElementException");
        check.refuses("11: the edge in the east", walls, b -> b.removeWall(5, 1, 'e'), "NoSuchElementException");
        check.refuses("11: twice", b -> { walls.prepare(b); b.removeWall(2, 2, 'l'); },
                b -> b.removeWall(2, 2, 'l'), "NoSuchElementException");
    }

    private static void isClosed(Check check) {
        Check.Setup walls = b -> { b.addWall(2, 2, 'l'); b.addWall(2, 2, 'e'); b.addWall(4, 0, 's'); };
        SideCall closed = (b, c, r, s) -> b.isClosed(c, r, s);
        Object[][] due = {
            {2, 2, 'l', true}, {2, 3, 's', true}, {2, 2, 'e', true}, {3, 2, 'w', true}, {4, 0, 's', true},
            {2, 2, 's', false}, {2, 2, 'w', false}, {3, 0, 's', false}, {5, 0, 's', false}, {2, 3, 'l', false},
            {0, 0, 'w', true}, {0, 6, 'w', true}, {5, 0, 'e', true}, {5, 6, 'e', true}, {0, 6, 'l', true},
            {5, 6, 'l', true}, {5, 5, 'l', false}, {4, 6, 'e', false}, {1, 6, 'w', false}, {0, 0, 's', false}};
        for (Object[] row : due) {
            check.answers("12: " + row[0] + "," + row[1] + " " + row[2], walls,
                    b -> closed.answer(b, (Integer) row[0], (Integer) row[1], (Character) row[2]), row[3]);
        }
    }

    private static void isPlanted(Check check) {
        Check.Setup planted = b -> { b.plant(2, 2); b.plant(5, 6); b.plant(0, 0); b.uproot(0, 0); };
        check.answers("13: planted", planted, b -> b.isPlanted(2, 2), true);
        check.answers("13: the last cell", planted, b -> b.isPlanted(5, 6), true);
        check.answers("13: uprooted", planted, b -> b.isPlanted(0, 0), false);
        check.answers("13: bare", planted, b -> b.isPlanted(2, 3), false);
        wrongCells(check, "isPlanted", (b, c, r) -> b.isPlanted(c, r));
    }

    static void wrongCells(Check check, String name, CellCall call) {
        for (int[] cell : NO_CELLS) {
            check.refuses(name + " at " + cell[0] + "," + cell[1], b -> b.plant(3, 3),
                    b -> call.answer(b, cell[0], cell[1]), "IndexOutOfBoundsException");
        }
    }

    static void wrongSides(Check check, String name, SideCall call) {
        for (int[] cell : NO_CELLS) {
            String what = name + " at " + cell[0] + "," + cell[1];
            check.refuses(what, b -> b.addWall(3, 3, 's'), b -> call.answer(b, cell[0], cell[1], 's'), "IndexOutOfBoundsException");
            check.refuses(what + ", no side", b -> b.addWall(3, 3, 's'), b -> call.answer(b, cell[0], cell[1], 'x'), "IndexOutOfBoundsException");
        }
        for (char side : new char[] {'S', 'L', 'W', 'E', 'n', 'r', 't', ' ', (char) 0, (char) 255, (char) 0xFFFF}) {
            check.refuses(name + " on side " + (int) side, b -> b.addWall(3, 3, 's'), b -> call.answer(b, 0, 6, side), "IllegalArgumentException");
        }
    }
}
