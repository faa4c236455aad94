import java.util.NoSuchElementException;

/** A beach in whole numbers: sand that slides, waves, wind, storms, walls, plants and water. Not thread-safe. */
public final class Sandpiper {
    private static final int COLUMNS = 6;
    private static final int ROWS = 7;
    private static final int CELLS = COLUMNS * ROWS;

    private static final int SEAWARD = 0;
    private static final int LANDWARD = 1;
    private static final int WESTWARD = 2;
    private static final int EASTWARD = 3;
    private static final int SIDES = 4;

    /** Where a side leads that does not lead to a cell; both are below 0, so that no cell has their number. */
    private static final int SEA = -1;
    private static final int SHUT = -2;

    private static final int BARE_LIMIT = 4;
    private static final int PLANTED_LIMIT = 8;
    private static final int MOST_GRAINS = 60;
    private static final int MOST_ENERGY = 60;
    private static final int MOST_LEAST = 9;
    private static final int MOST_LEVEL = 20;
    private static final int MOST_TIMES = 5;
    private static final int MOST_STEPS = 8;

    /** A level that no height reaches, since a beach that has settled has at most 7 grains in a cell. */
    private static final int ABOVE_ALL = 1000000;

    /**
     * More than any settling needs: at most 42 * 7 + 60 grains lie on the beach ahead of it, and each lets each of
     * the 42 cells topple at most as often as its way to the sea is long, which is 42 times: 624456 in all.
     */
    private static final int MOST_TOPPLINGS = 1000000;

    private final Grid grid;
    private final Numbers plants;
    private final Slide slide;
    private final Sands sands;
    private final Wave runner;
    private final Script script;
    private final Flood flood;

    public Sandpiper() {
        grid = new Grid();
        plants = new Numbers(CELLS);
        slide = new Slide(grid, plants);
        sands = new Sands(grid, slide);
        runner = new Wave(grid, plants, sands);
        script = new Script();
        flood = new Flood(grid, sands.heights);
    }

    // Sand

    public int pour(int column, int row, int grains) throws IndexOutOfBoundsException, IllegalArgumentException {
        int cell = cellOf(column, row);
        needGrains(grains);
        sands.bring(cell, grains);
        return sands.settle();
    }

    public int dig(int column, int row, int grains)
            throws IndexOutOfBoundsException, IllegalArgumentException, NoSuchElementException {
        int cell = cellOf(column, row);
        needGrains(grains);
        if (sands.heights.at(cell) < grains) {
            throw new NoSuchElementException("the cell has fewer grains");
        }
        sands.bring(cell, -grains);
        return sands.heights.at(cell);
    }

    public int topplesIf(int column, int row, int grains) throws IndexOutOfBoundsException, IllegalArgumentException {
        tryPouring(column, row, grains);
        slide.settleByQueue();
        return slide.times.total();
    }

    public int topplesIfBySweeps(int column, int row, int grains)
            throws IndexOutOfBoundsException, IllegalArgumentException {
        tryPouring(column, row, grains);
        slide.settleBySweeps();
        return slide.times.total();
    }

    public int lostIf(int column, int row, int grains) throws IndexOutOfBoundsException, IllegalArgumentException {
        tryPouring(column, row, grains);
        slide.settleByQueue();
        return slide.lostGrains();
    }

    public int lostIfBySweeps(int column, int row, int grains)
            throws IndexOutOfBoundsException, IllegalArgumentException {
        tryPouring(column, row, grains);
        slide.settleBySweeps();
        return slide.lostGrains();
    }

    // Plants and walls

    public int plant(int column, int row) throws IndexOutOfBoundsException, IllegalStateException {
        int cell = cellOf(column, row);
        if (plants.at(cell) != 0) {
            throw new IllegalStateException("the cell is planted");
        }
        plants.put(cell, 1);
        return plants.total();
    }

    public int uproot(int column, int row) throws IndexOutOfBoundsException, IllegalStateException {
        int cell = cellOf(column, row);
        if (plants.at(cell) == 0) {
            throw new IllegalStateException("the cell is not planted");
        }
        plants.put(cell, 0);
        return sands.settle();
    }

    public int addWall(int column, int row, char side)
            throws IndexOutOfBoundsException, IllegalArgumentException, IllegalStateException,
            UnsupportedOperationException {
        int cell = cellOf(column, row);
        int way = sideOf(side);
        if (grid.isShut(cell, way)) {
            throw new IllegalStateException("the side is closed");
        }
        grid.build(cell, way);
        if (flood.spread(ABOVE_ALL) < CELLS) {
            grid.pullDown(cell, way);
            throw new UnsupportedOperationException("a cell would have no way to the sea");
        }
        return grid.walls;
    }

    public int removeWall(int column, int row, char side)
            throws IndexOutOfBoundsException, IllegalArgumentException, NoSuchElementException {
        int cell = cellOf(column, row);
        int way = sideOf(side);
        if (!grid.hasWall(cell, way)) {
            throw new NoSuchElementException("there is no wall on this side");
        }
        grid.pullDown(cell, way);
        return grid.walls;
    }

    public boolean isClosed(int column, int row, char side) throws IndexOutOfBoundsException, IllegalArgumentException {
        int cell = cellOf(column, row);
        return grid.isShut(cell, sideOf(side));
    }

    public boolean isPlanted(int column, int row) throws IndexOutOfBoundsException {
        return plants.at(cellOf(column, row)) != 0;
    }

    // Waves, wind, storms

    public int wave(int column, int energy) throws IndexOutOfBoundsException, IllegalArgumentException {
        needColumn(column);
        needEnergy(energy);
        int entered = runner.come(column, energy);
        sands.settle();
        return entered;
    }

    public int wind(int least) throws IllegalArgumentException {
        if (least < 1 || least > MOST_LEAST) {
            throw new IllegalArgumentException("the least number of grains is not between 1 and 9");
        }
        int given = 0;
        // From the land to the sea, so that no cell has been given a grain yet when its height is looked at.
        for (int cell = CELLS - 1; cell >= 0; cell--) {
            if (isBlownFrom(cell, least)) {
                sands.carry(cell, -1);
                sands.carry(grid.leadsTo(cell, LANDWARD), 1);
                given++;
            }
        }
        sands.settle();
        return given;
    }

    public int addStep(int column, int energy)
            throws IndexOutOfBoundsException, IllegalArgumentException, IllegalStateException {
        needColumn(column);
        needEnergy(energy);
        if (script.steps >= MOST_STEPS) {
            throw new IllegalStateException("the storm has 8 steps");
        }
        script.append(column, energy);
        return script.steps;
    }

    public int clearStorm() {
        int before = script.steps;
        script.steps = 0;
        return before;
    }

    public int storm(int times) throws IllegalArgumentException, IllegalStateException {
        if (times < 1 || times > MOST_TIMES) {
            throw new IllegalArgumentException("the number of times is not between 1 and 5");
        }
        if (script.steps == 0) {
            throw new IllegalStateException("the storm has no steps");
        }
        int before = sands.inSea;
        for (int time = 0; time < times; time++) {
            for (int step = 0; step < script.steps; step++) {
                runner.come(script.columns.at(step), script.energies.at(step));
                sands.settle();
            }
        }
        return sands.inSea - before;
    }

    // Heights and flows

    public int height(int column, int row) throws IndexOutOfBoundsException {
        return sands.heights.at(cellOf(column, row));
    }

    public int heightByFlows(int column, int row) throws IndexOutOfBoundsException {
        int cell = cellOf(column, row);
        int grains = sands.carried.at(cell);
        for (int side = 0; side < SIDES; side++) {
            grains -= sands.flows.at(placeOf(cell, side));
        }
        return grains;
    }

    public int flow(int column, int row, char side) throws IndexOutOfBoundsException, IllegalArgumentException {
        int cell = cellOf(column, row);
        return sands.flows.at(placeOf(cell, sideOf(side)));
    }

    public int topplings(int column, int row) throws IndexOutOfBoundsException {
        return sands.toppled.at(cellOf(column, row));
    }

    public int highest(int column) throws IndexOutOfBoundsException {
        needColumn(column);
        int best = 0;
        for (int row = 1; row < ROWS; row++) {
            if (sands.heights.at(numberOf(column, row)) > sands.heights.at(numberOf(column, best))) {
                best = row;
            }
        }
        return best;
    }

    public int roughness(int column) throws IndexOutOfBoundsException {
        needColumn(column);
        int sum = 0;
        for (int row = 1; row < ROWS; row++) {
            int step = sands.heights.at(numberOf(column, row)) - sands.heights.at(numberOf(column, row - 1));
            sum += Math.abs(step);
        }
        return sum;
    }

    // Water and sums

    public int flooded(int level) throws IllegalArgumentException {
        needLevel(level);
        return flood.spread(level);
    }

    public int floodedByRounds(int level) throws IllegalArgumentException {
        needLevel(level);
        return flood.spreadByRounds(level);
    }

    public boolean isFlooded(int column, int row, int level)
            throws IndexOutOfBoundsException, IllegalArgumentException {
        int cell = cellOf(column, row);
        needLevel(level);
        flood.spread(level);
        return flood.wet.at(cell) != 0;
    }

    public int sand() {
        return sands.heights.total();
    }

    public int sea() {
        return sands.inSea;
    }

    public int brought() {
        return sands.inAll;
    }

    public float meanHeight() {
        return (float) sands.heights.total() / (float) CELLS;
    }

    // Arguments

    private static int cellOf(int column, int row) {
        if (column < 0 || column >= COLUMNS || row < 0 || row >= ROWS) {
            throw new IndexOutOfBoundsException("there is no such cell");
        }
        return numberOf(column, row);
    }

    private static int sideOf(char side) {
        if (side == 's') {
            return SEAWARD;
        }
        if (side == 'l') {
            return LANDWARD;
        }
        if (side == 'w') {
            return WESTWARD;
        }
        if (side == 'e') {
            return EASTWARD;
        }
        throw new IllegalArgumentException("there is no such side");
    }

    private static void needColumn(int column) {
        if (column < 0 || column >= COLUMNS) {
            throw new IndexOutOfBoundsException("there is no such column");
        }
    }

    private static void needGrains(int grains) {
        if (grains < 1 || grains > MOST_GRAINS) {
            throw new IllegalArgumentException("the number of grains is not between 1 and 60");
        }
    }

    private static void needEnergy(int energy) {
        if (energy < 1 || energy > MOST_ENERGY) {
            throw new IllegalArgumentException("the energy is not between 1 and 60");
        }
    }

    private static void needLevel(int level) {
        if (level < 0 || level > MOST_LEVEL) {
            throw new IllegalArgumentException("the level is not between 0 and 20");
        }
    }

    // Steps of the calls above

    private void tryPouring(int column, int row, int grains) {
        int cell = cellOf(column, row);
        needGrains(grains);
        slide.start(sands.heights);
        slide.heights.add(cell, grains);
    }

    private boolean isBlownFrom(int cell, int least) {
        return plants.at(cell) == 0 && sands.heights.at(cell) >= least && !grid.isShut(cell, LANDWARD);
    }

    // Cells and sides by their numbers; rows with higher numbers have cells with higher numbers.

    private static int numberOf(int column, int row) {
        return row * COLUMNS + column;
    }

    private static boolean isCell(int number) {
        return number >= 0 && number < CELLS;
    }

    private static int placeOf(int cell, int side) {
        return cell * SIDES + side;
    }

    private static int opposite(int side) {
        return side ^ 1;
    }

    /** A row of numbers, at first 0; beyond its ends all numbers are 0 and stay so. */
    private static final class Numbers {
        private final int[] row;

        Numbers(int length) {
            row = new int[length < 0 ? 0 : length];
        }

        int at(int place) {
            return place >= 0 && place < row.length ? row[place] : 0;
        }

        void put(int place, int number) {
            if (place >= 0 && place < row.length) {
                row[place] = number;
            }
        }

        void add(int place, int more) {
            if (place >= 0 && place < row.length) {
                row[place] += more;
            }
        }

        void clear() {
            for (int place = 0; place < row.length; place++) {
                row[place] = 0;
            }
        }

        void copyFrom(Numbers other) {
            for (int place = 0; place < row.length; place++) {
                row[place] = other.at(place);
            }
        }

        void addAll(Numbers other) {
            for (int place = 0; place < row.length; place++) {
                row[place] += other.at(place);
            }
        }

        int total() {
            int sum = 0;
            for (int place = 0; place < row.length; place++) {
                sum += row[place];
            }
            return sum;
        }
    }

    /** The sides of the cells: where each one leads, and the walls on them. */
    private static final class Grid {
        private final Numbers leads = new Numbers(CELLS * SIDES);
        private int walls;

        Grid() {
            for (int cell = 0; cell < CELLS; cell++) {
                for (int side = 0; side < SIDES; side++) {
                    leads.put(placeOf(cell, side), across(cell, side));
                }
            }
        }

        /** What lies behind a side if there are no walls. */
        private static int across(int cell, int side) {
            int column = cell % COLUMNS;
            int row = cell / COLUMNS;
            if (side == SEAWARD) {
                return row > 0 ? cell - COLUMNS : SEA;
            }
            if (side == LANDWARD) {
                return row < ROWS - 1 ? cell + COLUMNS : SHUT;
            }
            if (side == WESTWARD) {
                return column > 0 ? cell - 1 : SHUT;
            }
            return column < COLUMNS - 1 ? cell + 1 : SHUT;
        }

        int leadsTo(int cell, int side) {
            return leads.at(placeOf(cell, side));
        }

        boolean isShut(int cell, int side) {
            return leadsTo(cell, side) == SHUT;
        }

        boolean hasWall(int cell, int side) {
            return isShut(cell, side) && across(cell, side) != SHUT;
        }

        int openSides(int cell) {
            int open = 0;
            for (int side = 0; side < SIDES; side++) {
                if (leadsTo(cell, side) != SHUT) {
                    open++;
                }
            }
            return open;
        }

        void build(int cell, int side) {
            int there = across(cell, side);
            leads.put(placeOf(cell, side), SHUT);
            if (isCell(there)) {
                leads.put(placeOf(there, opposite(side)), SHUT);
            }
            walls++;
        }

        void pullDown(int cell, int side) {
            int there = across(cell, side);
            leads.put(placeOf(cell, side), there);
            if (isCell(there)) {
                leads.put(placeOf(there, opposite(side)), cell);
            }
            walls--;
        }
    }

    /** Cells that wait for their turn, each of them once at a time. */
    private static final class CellQueue {
        private final Numbers ring = new Numbers(CELLS);
        private final Numbers waiting = new Numbers(CELLS);
        private int first;
        private int count;

        void clear() {
            waiting.clear();
            first = 0;
            count = 0;
        }

        boolean isEmpty() {
            return count == 0;
        }

        void enter(int cell) {
            if (isCell(cell) && waiting.at(cell) == 0 && count < CELLS) {
                ring.put((first + count) % CELLS, cell);
                waiting.put(cell, 1);
                count++;
            }
        }

        int leave() {
            int cell = ring.at(first);
            waiting.put(cell, 0);
            first = (first + 1) % CELLS;
            count--;
            return cell;
        }
    }

    /** Settles heights of its own, so that what would happen can be found while the beach stays as it is. */
    private static final class Slide {
        private final Grid grid;
        private final Numbers plants;
        private final Numbers heights = new Numbers(CELLS);
        private final Numbers times = new Numbers(CELLS);
        private final CellQueue queue = new CellQueue();

        Slide(Grid grid, Numbers plants) {
            this.grid = grid;
            this.plants = plants;
        }

        void start(Numbers from) {
            heights.copyFrom(from);
            times.clear();
        }

        void settleByQueue() {
            queue.clear();
            for (int cell = 0; cell < CELLS; cell++) {
                if (isTooHigh(cell)) {
                    queue.enter(cell);
                }
            }
            for (int turn = 0; turn < MOST_TOPPLINGS && !queue.isEmpty(); turn++) {
                int cell = queue.leave();
                topple(cell);
                queueBeside(cell);
            }
        }

        private void queueBeside(int cell) {
            for (int side = 0; side < SIDES; side++) {
                int there = grid.leadsTo(cell, side);
                if (isCell(there) && isTooHigh(there)) {
                    queue.enter(there);
                }
            }
        }

        void settleBySweeps() {
            boolean slid = true;
            for (int sweep = 0; sweep < MOST_TOPPLINGS && slid; sweep++) {
                slid = sweepOnce();
            }
        }

        private boolean sweepOnce() {
            boolean slid = false;
            for (int cell = CELLS - 1; cell >= 0; cell--) {
                if (isTooHigh(cell)) {
                    topple(cell);
                    slid = true;
                }
            }
            return slid;
        }

        private int limitOf(int cell) {
            return plants.at(cell) == 0 ? BARE_LIMIT : PLANTED_LIMIT;
        }

        private boolean isTooHigh(int cell) {
            return heights.at(cell) >= limitOf(cell);
        }

        /** Lets a cell that is too high topple until it is not, at once, since the order makes no difference. */
        private void topple(int cell) {
            int open = grid.openSides(cell);
            if (open <= 0) {
                return;
            }
            int often = (heights.at(cell) - limitOf(cell)) / open + 1;
            times.add(cell, often);
            heights.add(cell, -often * open);
            for (int side = 0; side < SIDES; side++) {
                heights.add(grid.leadsTo(cell, side), often);
            }
        }

        int lostGrains() {
            int lost = 0;
            for (int cell = 0; cell < COLUMNS; cell++) {
                if (grid.leadsTo(cell, SEAWARD) == SEA) {
                    lost += times.at(cell);
                }
            }
            return lost;
        }
    }

    /** The grains of the beach and the sea, with the account of how they came there. */
    private static final class Sands {
        private final Grid grid;
        private final Slide slide;
        private final Numbers heights = new Numbers(CELLS);
        private final Numbers carried = new Numbers(CELLS);
        private final Numbers toppled = new Numbers(CELLS);
        private final Numbers flows = new Numbers(CELLS * SIDES);
        private int inSea;
        private int inAll;

        Sands(Grid grid, Slide slide) {
            this.grid = grid;
            this.slide = slide;
        }

        void bring(int cell, int grains) {
            carry(cell, grains);
            inAll += grains;
        }

        void carry(int cell, int grains) {
            heights.add(cell, grains);
            carried.add(cell, grains);
        }

        int settle() {
            slide.start(heights);
            slide.settleByQueue();
            heights.copyFrom(slide.heights);
            toppled.addAll(slide.times);
            inSea += slide.lostGrains();
            for (int cell = 0; cell < CELLS; cell++) {
                countFlows(cell);
            }
            return slide.times.total();
        }

        /** From the sea nothing flows back: its times are 0, as it is no cell. */
        private void countFlows(int cell) {
            for (int side = 0; side < SIDES; side++) {
                int there = grid.leadsTo(cell, side);
                if (there != SHUT) {
                    flows.add(placeOf(cell, side), slide.times.at(cell) - slide.times.at(there));
                }
            }
        }
    }

    /** The one wave that is on its way; waves never meet, so the same object serves for all. */
    private static final class Wave {
        private final Grid grid;
        private final Numbers plants;
        private final Sands sands;
        private int energy;
        private int load;
        private int entered;

        Wave(Grid grid, Numbers plants, Sands sands) {
            this.grid = grid;
            this.plants = plants;
            this.sands = sands;
        }

        int come(int column, int strength) {
            energy = strength;
            load = 0;
            entered = 0;
            boolean thrownBack = runUp(column);
            for (int row = entered - 1; row >= 0; row--) {
                int cell = numberOf(column, row);
                if (thrownBack) {
                    takeFrom(cell);
                } else {
                    dropInto(cell);
                }
            }
            sands.inSea += load;
            return entered;
        }

        /** Answers whether the wave is thrown back; otherwise it stops. */
        private boolean runUp(int column) {
            for (int row = 0; row < ROWS; row++) {
                int cell = numberOf(column, row);
                if (grid.isShut(cell, SEAWARD)) {
                    return true;
                }
                if (energy <= sands.heights.at(cell)) {
                    return false;
                }
                enter(cell);
            }
            return true;
        }

        private void enter(int cell) {
            energy -= 1 + sands.heights.at(cell) / 4;
            if (plants.at(cell) != 0) {
                energy--;
            }
            takeFrom(cell);
            entered++;
        }

        private void takeFrom(int cell) {
            if (plants.at(cell) == 0 && sands.heights.at(cell) > 0) {
                sands.carry(cell, -1);
                load++;
            }
        }

        private void dropInto(int cell) {
            if (load > 0) {
                sands.carry(cell, 1);
                load--;
            }
        }
    }

    /** The steps of the storm. */
    private static final class Script {
        private final Numbers columns = new Numbers(MOST_STEPS);
        private final Numbers energies = new Numbers(MOST_STEPS);
        private int steps;

        void append(int column, int energy) {
            columns.put(steps, column);
            energies.put(steps, energy);
            steps++;
        }
    }

    /** Finds the cells in which water stands; they are marked until the next search. */
    private static final class Flood {
        private final Grid grid;
        private final Numbers heights;
        private final Numbers wet = new Numbers(CELLS);
        private final CellQueue queue = new CellQueue();

        Flood(Grid grid, Numbers heights) {
            this.grid = grid;
            this.heights = heights;
        }

        int spread(int level) {
            wet.clear();
            queue.clear();
            for (int cell = 0; cell < COLUMNS; cell++) {
                if (grid.leadsTo(cell, SEAWARD) == SEA) {
                    soak(cell, level);
                }
            }
            for (int turn = 0; turn < CELLS && !queue.isEmpty(); turn++) {
                int cell = queue.leave();
                for (int side = 0; side < SIDES; side++) {
                    soak(grid.leadsTo(cell, side), level);
                }
            }
            return wet.total();
        }

        private void soak(int cell, int level) {
            if (isCell(cell) && wet.at(cell) == 0 && heights.at(cell) < level) {
                wet.put(cell, 1);
                queue.enter(cell);
            }
        }

        int spreadByRounds(int level) {
            wet.clear();
            boolean rose = true;
            // Each round but the last one makes a cell wet.
            for (int round = 0; round <= CELLS && rose; round++) {
                rose = riseOnce(level);
            }
            return wet.total();
        }

        private boolean riseOnce(int level) {
            boolean rose = false;
            for (int cell = 0; cell < CELLS; cell++) {
                if (wet.at(cell) == 0 && heights.at(cell) < level && isBesideWater(cell)) {
                    wet.put(cell, 1);
                    rose = true;
                }
            }
            return rose;
        }

        private boolean isBesideWater(int cell) {
            for (int side = 0; side < SIDES; side++) {
                int there = grid.leadsTo(cell, side);
                if (there == SEA || wet.at(there) != 0) {
                    return true;
                }
            }
            return false;
        }
    }
}
