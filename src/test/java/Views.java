/**
 * What can be seen of a beach by the calls that change nothing, in parts of less than 180 calls: so each part can
 * be asked for ahead of a call and after it within the 512 calls of an object, with 150 calls left for the setup.
 */
enum Views {
    HEIGHTS {
        @Override
        String of(Sandpiper beach) {
            StringBuilder text = new StringBuilder();
            for (int cell = 0; cell < Beaches.CELLS; cell++) {
                int column = Beaches.columnOf(cell);
                int row = Beaches.rowOf(cell);
                text.append(beach.height(column, row)).append("=").append(beach.heightByFlows(column, row));
                text.append(beach.isPlanted(column, row) ? "p" : "b").append(beach.topplings(column, row)).append(" ");
            }
            return text.append(sums(beach)).toString();
        }
    },
    FLOWS {
        @Override
        String of(Sandpiper beach) {
            return Beaches.ofAllSides((column, row, side) -> beach.flow(column, row, side));
        }
    },
    SIDES {
        @Override
        String of(Sandpiper beach) {
            return Beaches.ofAllSides((column, row, side) -> beach.isClosed(column, row, side));
        }
    },
    WATER {
        @Override
        String of(Sandpiper beach) {
            StringBuilder text = new StringBuilder();
            for (int column = 0; column < Beaches.COLUMNS; column++) {
                text.append(beach.highest(column)).append("/").append(beach.roughness(column)).append(" ");
            }
            for (int level = 0; level <= 20; level++) {
                text.append(beach.flooded(level)).append("=").append(beach.floodedByRounds(level)).append(" ");
            }
            for (int cell = 0; cell < Beaches.CELLS; cell++) {
                text.append(beach.isFlooded(Beaches.columnOf(cell), Beaches.rowOf(cell), 2)).append(" ");
            }
            return text.toString();
        }
    },
    TRIALS {
        @Override
        String of(Sandpiper beach) {
            StringBuilder text = new StringBuilder();
            for (int cell = 0; cell < Beaches.CELLS; cell += 5) {
                int column = Beaches.columnOf(cell);
                int row = Beaches.rowOf(cell);
                text.append(beach.topplesIf(column, row, 9)).append("=");
                text.append(beach.topplesIfBySweeps(column, row, 9)).append(" ");
                text.append(beach.lostIf(column, row, 9)).append("=");
                text.append(beach.lostIfBySweeps(column, row, 9)).append(" ");
            }
            return text.toString();
        }
    };

    abstract String of(Sandpiper beach);

    static String sums(Sandpiper beach) {
        return beach.sand() + " " + beach.sea() + " " + beach.brought() + " " + beach.meanHeight();
    }

    /**
     * What only calls can tell that do change the beach: the steps of the storm, the number of plants and of walls.
     * It asks 310 calls and leaves a beach that is of no use any more.
     */
    static String deeds(Sandpiper beach) {
        StringBuilder text = new StringBuilder();
        text.append(Sentence.outcome(beach, b -> b.storm(1))).append(" ");
        text.append(Sentence.outcome(beach, b -> b.addStep(5, 60))).append(" ");
        text.append(Sentence.outcome(beach, b -> b.storm(2))).append(" ");
        text.append(beach.clearStorm()).append(" ");
        for (int cell = 0; cell < Beaches.CELLS; cell++) {
            int column = Beaches.columnOf(cell);
            int row = Beaches.rowOf(cell);
            text.append(beach.height(column, row)).append(" ");
            text.append(Sentence.outcome(beach, b -> b.plant(column, row))).append(" ");
        }
        text.append(Beaches.ofAllSides((column, row, side) ->
                Sentence.outcome(beach, b -> b.addWall(column, row, side))));
        return text.append(sums(beach)).toString();
    }

    /** All cells and sides at once, in 469 calls; PlainBeach draws the same picture of itself. */
    static String picture(Sandpiper beach) {
        StringBuilder text = new StringBuilder();
        for (int column = 0; column < Beaches.COLUMNS; column++) {
            for (int row = 0; row < Beaches.ROWS; row++) {
                text.append(beach.height(column, row)).append(beach.isPlanted(column, row) ? "p" : "b");
                text.append(beach.topplings(column, row));
                for (char side : Beaches.SIDES.toCharArray()) {
                    text.append(beach.isClosed(column, row, side) ? "|" : " ");
                    text.append(beach.flow(column, row, side));
                }
                text.append("; ");
            }
        }
        return text.append(beach.sand()).append(" ").append(beach.sea()).append(" ").append(beach.brought()).toString();
    }
}
