/** The term "Sand" and promises 28 to 31: sand, sea, brought, meanHeight. */
final class SumsTest {
    private final Document document;

    private SumsTest(Document document) {
        this.document = document;
    }

    static void run(Document document) {
        SumsTest test = new SumsTest(document);
        test.broughtByPouring();
        test.nothingIsLost();
        test.promise28();
        test.promise29();
        test.promise30();
        test.promise31();
    }

    private void broughtByPouring() {
        Sentence sentence = document.term("Sand", "Sand is brought by pouring and taken away by digging");
        sentence.answers("1 poured", b -> b.pour(0, 0, 1), b -> b.brought(), 1);
        sentence.answers("60 poured", b -> b.pour(0, 0, 60), b -> b.brought(), 60);
        sentence.answers("dug", b -> { b.pour(0, 0, 3); b.dig(0, 0, 2); }, b -> b.brought(), 1);
        sentence.answers("all dug", b -> { b.pour(0, 0, 3); b.dig(0, 0, 3); }, b -> b.brought(), 0);
        sentence.answers("not by waves", Beaches.LEVEL, b -> { b.wave(3, 60); b.wave(2, 60); return b.brought(); }, 126);
        sentence.answers("not by wind", Beaches.LEVEL, b -> { b.wind(1); return b.brought(); }, 126);
        sentence.answers("not by storms", Beaches.all(Beaches.LEVEL, b -> b.addStep(2, 60)),
                b -> { b.storm(5); return b.brought(); }, 126);
        sentence.answers("not by plants", Beaches.PLANTED, b -> { b.uproot(2, 0); b.plant(2, 0); return b.brought(); }, 294);
        sentence.answers("not by walls", Beaches.LEVEL,
                b -> { b.addWall(2, 0, 's'); b.removeWall(2, 0, 's'); return b.brought(); }, 126);
        sentence.answers("not by trials", Beaches.LEVEL,
                b -> { b.topplesIf(2, 0, 60); b.lostIfBySweeps(2, 0, 60); return b.brought(); }, 126);
        sentence.answers("not by what was refused", b -> b.pour(0, 0, 3), b -> Sentence.outcome(b, x -> x.dig(0, 0, 4)) + " "
                + Sentence.outcome(b, x -> x.pour(0, 0, 61)) + " " + b.brought(),
                        "throws.NoSuchElementException throws.IllegalArgumentException 3");
    }

    private void nothingIsLost() {
        Sentence sentence = document.term("Sand",
                "all that was brought, less all that was taken away, is what there is on the beach and in the sea");
        Sentence.Call balance = b -> b.brought() - b.sand() - b.sea();
        Beaches.Setup[] setups = {Beaches.EMPTY, Beaches.BUSY, Beaches.LEVEL, Beaches.PLANTED, Beaches.SNAKE,
                Beaches.COMB, Beaches.DAMS};
        for (int i = 0; i < setups.length; i++) {
            sentence.answers("beach " + i, setups[i], balance, 0);
            sentence.answers("poured, beach " + i, Beaches.all(setups[i], b -> b.pour(3, 0, 60), b -> b.pour(0, 6, 60)),
                    balance, 0);
            sentence.answers("waves and wind, beach " + i,
                    Beaches.all(setups[i], b -> b.pour(3, 0, 60), b -> b.wave(3, 60), b -> b.wave(2, 9),
                    b -> b.wind(1), b -> b.wave(3, 5)), balance, 0);
            sentence.answers("dug, beach " + i, Beaches.all(setups[i], b -> b.pour(3, 3, 3), b -> b.dig(3, 3, 1)),
                    balance, 0);
        }
    }

    private void promise28() {
        document.promise(28, "Returns the number of grains").answers("none", Beaches.EMPTY, b -> b.sand(), 0);
        Sentence sentence = document.promise(28, "Returns the number of grains on the beach");
        sentence.answers("one", b -> b.pour(5, 6, 1), b -> b.sand(), 1);
        sentence.answers("not in the sea", b -> b.pour(2, 0, 4), b -> b.sand(), 3);
        sentence.answers("as many as bare ground holds", Beaches.LEVEL, b -> b.sand(), 126);
        sentence.answers("as many as a beach holds", Beaches.PLANTED, b -> b.sand(), 294);
        sentence.answers("none when all is dug", b -> { b.pour(5, 6, 3); b.dig(5, 6, 3); }, b -> b.sand(), 0);
        sentence.answers("none when all is in the sea",
                Beaches.all(Beaches.column(2, "3333333"), b -> b.wave(2, 60), b -> b.wave(2, 60)), b -> b.sand(), 0);
        sentence.answers("wind moves it", Beaches.column(2, "3"), b -> { b.wind(1); return b.sand(); }, 3);
        sentence.changesNothing("asked", Beaches.BUSY, b -> b.sand());
    }

    private void promise29() {
        document.promise(29, "Returns the number of grains").answers("none", Beaches.EMPTY, b -> b.sea(), 0);
        Sentence sentence = document.promise(29, "Returns the number of grains in the sea");
        sentence.answers("none of a full beach", Beaches.PLANTED, b -> b.sea(), 0);
        sentence.answers("one by sliding", b -> b.pour(2, 0, 4), b -> b.sea(), 1);
        sentence.answers("by a wave", Beaches.all(Beaches.column(2, "0000001"), b -> b.wave(2, 60)), b -> b.sea(), 1);
        sentence.answers("by a storm", Beaches.all(Beaches.column(2, "3"), b -> b.addStep(2, 60), b -> b.storm(5)),
                b -> b.sea(), 3);
        sentence.answers("not by a wave that stops", Beaches.all(Beaches.column(2, "3"), b -> b.wave(2, 6)),
                b -> b.sea(), 0);
        sentence.answers("not by wind", Beaches.all(Beaches.column(2, "3"), b -> b.wind(1)), b -> b.sea(), 0);
        sentence.answers("not by digging", b -> { b.pour(2, 0, 3); b.dig(2, 0, 3); }, b -> b.sea(), 0);
        sentence.answers("not by trials", b -> { b.lostIf(2, 0, 60); b.lostIfBySweeps(2, 0, 60); }, b -> b.sea(), 0);
        sentence.answers("by uprooting", Beaches.all(Beaches.planted(2, 0, 4), b -> b.uproot(2, 0)), b -> b.sea(), 1);
        sentence.answers("all of it", Beaches.all(Beaches.column(2, "3333333"), b -> b.wave(2, 60), b -> b.wave(2, 60)),
                b -> b.sea(), 21);
        sentence.changesNothing("asked", Beaches.BUSY, b -> b.sea());
    }

    private void promise30() {
        document.promise(30, "Returns the number of grains").answers("none", Beaches.EMPTY, b -> b.brought(), 0);
        Sentence sentence = document.promise(30, "Returns how many grains were brought, less those that were taken away");
        sentence.answers("brought", b -> { b.pour(0, 0, 60); b.pour(5, 6, 1); }, b -> b.brought(), 61);
        sentence.answers("as many as a beach holds", Beaches.PLANTED, b -> b.brought(), 294);
        sentence.answers("taken away", b -> { b.pour(5, 6, 3); b.dig(5, 6, 1); }, b -> b.brought(), 2);
        sentence.answers("all taken away", b -> { b.pour(5, 6, 3); b.dig(5, 6, 3); }, b -> b.brought(), 0);
        sentence.answers("all that is on the beach taken away",
                b -> { b.pour(2, 0, 4); b.dig(1, 0, 1); b.dig(3, 0, 1); b.dig(2, 1, 1); },
                b -> b.brought() + " " + b.sea() + " " + b.sand(), "1 1 0");
        sentence.answers("what is in the sea was brought", Beaches.all(Beaches.column(2, "3"), b -> b.wave(2, 60)),
                b -> b.brought(), 3);
        sentence.changesNothing("asked", Beaches.BUSY, b -> b.brought());
    }

    private void promise31() {
        document.promise(31, "Returns the mean height of all cells").answers("one on each", b -> {
            for (int cell = 0; cell < Beaches.CELLS; cell++) {
                b.pour(Beaches.columnOf(cell), Beaches.rowOf(cell), 1);
            }
        }, b -> b.meanHeight(), 1.0f);
        Sentence sentence = document.promise(31,
                "Returns the number of grains on the beach divided by 42, both converted to float");
        sentence.answers("nothing", Beaches.EMPTY, b -> b.meanHeight(), 0.0f);
        sentence.answers("as many as bare ground holds", Beaches.LEVEL, b -> b.meanHeight(), 3.0f);
        sentence.answers("as many as a beach holds", Beaches.PLANTED, b -> b.meanHeight(), 7.0f);
        sentence.answers("not what is in the sea", b -> b.pour(2, 0, 4), b -> b.meanHeight(), 3f / 42f);
        sentence.answers("divided as floats, not as doubles", b -> b.pour(2, 3, 25), b -> (double) b.meanHeight(),
                0.5952380895614624);
        for (int grains = 1; grains <= 60; grains++) {
            int poured = grains;
            sentence.answers(grains + " grains far from the sea", b -> b.pour(2, 3, poured), b -> b.meanHeight(),
                    (float) poured / 42f);
        }
        sentence.changesNothing("asked", Beaches.BUSY, b -> b.meanHeight());
    }
}
