import java.util.ArrayList;
import java.util.HashSet;
import java.util.List;
import java.util.Random;
import java.util.Set;

/**
 * The document once more, written as plainly as it reads and unlike the program: cells by column and row, one
 * toppling at a time in an order drawn by lot, grains that go over a side counted one by one.
 */
final class PlainBeach {
    private static final String LETTERS = "slwe";
    private static final int[] COLUMN_STEP = {0, 0, -1, 1};
    private static final int[] ROW_STEP = {-1, 1, 0, 0};

    private final Random lots = new Random(7);
    private int[][] heights = new int[6][7];
    private final boolean[][] planted = new boolean[6][7];
    private final int[][] topplings = new int[6][7];
    private final int[][][] out = new int[6][7][4];
    private final Set<String> walls = new HashSet<>();
    private final List<int[]> steps = new ArrayList<>();
    private int sea;
    private int brought;
    private boolean recording = true;

    private static void cell(int column, int row) {
        if (column < 0 || column > 5 || row < 0 || row > 6) {
            throw new IndexOutOfBoundsException();
        }
    }

    private static void between(int number, int least, int most) {
        if (number < least || number > most) {
            throw new IllegalArgumentException();
        }
    }

    private static int side(char letter) {
        int side = LETTERS.indexOf(letter);
        if (side < 0) {
            throw new IllegalArgumentException();
        }
        return side;
    }

    private static boolean inside(int column, int row) {
        return column >= 0 && column <= 5 && row >= 0 && row <= 6;
    }

    private static boolean isEdge(int column, int row, int side) {
        return side != 0 && !inside(column + COLUMN_STEP[side], row + ROW_STEP[side]);
    }

    /** The one name of a common side, taken from the lower cell or the western one; the sea has the row -1. */
    private static String wallName(int column, int row, int side) {
        int column2 = column + COLUMN_STEP[side];
        int row2 = row + ROW_STEP[side];
        boolean here = row * 10 + column < row2 * 10 + column2;
        return here ? column + "," + row + "/" + column2 + "," + row2 : column2 + "," + row2 + "/" + column + "," + row;
    }

    private boolean closed(int column, int row, int side) {
        return isEdge(column, row, side) || walls.contains(wallName(column, row, side));
    }

    private boolean tooHigh(int column, int row) {
        return heights[column][row] >= (planted[column][row] ? 8 : 4);
    }

    private int settle() {
        int count = 0;
        while (true) {
            List<int[]> high = new ArrayList<>();
            for (int column = 0; column < 6; column++) {
                for (int row = 0; row < 7; row++) {
                    if (tooHigh(column, row)) {
                        high.add(new int[] {column, row});
                    }
                }
            }
            if (high.isEmpty()) {
                return count;
            }
            int[] chosen = high.get(lots.nextInt(high.size()));
            topple(chosen[0], chosen[1]);
            count++;
        }
    }

    private void topple(int column, int row) {
        if (recording) {
            topplings[column][row]++;
        }
        for (int side = 0; side < 4; side++) {
            if (!closed(column, row, side)) {
                heights[column][row]--;
                int column2 = column + COLUMN_STEP[side];
                int row2 = row + ROW_STEP[side];
                if (recording) {
                    out[column][row][side]++;
                }
                if (inside(column2, row2)) {
                    heights[column2][row2]++;
                } else {
                    sea++;
                }
            }
        }
    }

    int pour(int column, int row, int grains) {
        cell(column, row);
        between(grains, 1, 60);
        heights[column][row] += grains;
        brought += grains;
        return settle();
    }

    int dig(int column, int row, int grains) {
        cell(column, row);
        between(grains, 1, 60);
        if (heights[column][row] < grains) {
            throw new java.util.NoSuchElementException();
        }
        brought -= grains;
        heights[column][row] -= grains;
        return heights[column][row];
    }

    /** What would topple and what would be lost. */
    int[] trial(int column, int row, int grains) {
        cell(column, row);
        between(grains, 1, 60);
        int[][] kept = new int[6][];
        for (int i = 0; i < 6; i++) {
            kept[i] = heights[i].clone();
        }
        int keptSea = sea;
        recording = false;
        heights[column][row] += grains;
        int count = settle();
        int lost = sea - keptSea;
        recording = true;
        heights = kept;
        sea = keptSea;
        return new int[] {count, lost};
    }

    int plant(int column, int row) {
        cell(column, row);
        if (planted[column][row]) {
            throw new IllegalStateException();
        }
        planted[column][row] = true;
        int count = 0;
        for (boolean[] line : planted) {
            for (boolean one : line) {
                count += one ? 1 : 0;
            }
        }
        return count;
    }

    int uproot(int column, int row) {
        cell(column, row);
        if (!planted[column][row]) {
            throw new IllegalStateException();
        }
        planted[column][row] = false;
        return settle();
    }

    int addWall(int column, int row, char letter) {
        cell(column, row);
        int side = side(letter);
        if (closed(column, row, side)) {
            throw new IllegalStateException();
        }
        walls.add(wallName(column, row, side));
        if (reached(1000).size() < 42) {
            walls.remove(wallName(column, row, side));
            throw new UnsupportedOperationException();
        }
        return walls.size();
    }

    int removeWall(int column, int row, char letter) {
        cell(column, row);
        int side = side(letter);
        if (!walls.remove(wallName(column, row, side))) {
            throw new java.util.NoSuchElementException();
        }
        return walls.size();
    }

    boolean isClosed(int column, int row, char letter) {
        cell(column, row);
        return closed(column, row, side(letter));
    }

    boolean isPlanted(int column, int row) {
        cell(column, row);
        return planted[column][row];
    }

    int wave(int column, int energy) {
        cell(column, 0);
        between(energy, 1, 60);
        int load = 0;
        int next = 0;
        boolean thrown;
        while (true) {
            if (next == 7 || closed(column, next, 0)) {
                thrown = true;
                break;
            }
            int high = heights[column][next];
            if (energy <= high) {
                thrown = false;
                break;
            }
            energy = energy - 1 - high / 4 - (planted[column][next] ? 1 : 0);
            if (!planted[column][next] && high > 0) {
                heights[column][next]--;
                load++;
            }
            next++;
        }
        for (int row = next - 1; row >= 0; row--) {
            if (thrown && !planted[column][row] && heights[column][row] > 0) {
                heights[column][row]--;
                load++;
            } else if (!thrown && load > 0) {
                heights[column][row]++;
                load--;
            }
        }
        sea += load;
        settle();
        return next;
    }

    int wind(int least) {
        between(least, 1, 9);
        int[][] change = new int[6][7];
        int given = 0;
        for (int column = 0; column < 6; column++) {
            for (int row = 0; row < 7; row++) {
                if (!planted[column][row] && heights[column][row] >= least && !closed(column, row, 1)) {
                    change[column][row]--;
                    change[column][row + 1]++;
                    given++;
                }
            }
        }
        for (int column = 0; column < 6; column++) {
            for (int row = 0; row < 7; row++) {
                heights[column][row] += change[column][row];
            }
        }
        settle();
        return given;
    }

    int addStep(int column, int energy) {
        cell(column, 0);
        between(energy, 1, 60);
        if (steps.size() == 8) {
            throw new IllegalStateException();
        }
        steps.add(new int[] {column, energy});
        return steps.size();
    }

    int clearStorm() {
        int before = steps.size();
        steps.clear();
        return before;
    }

    int storm(int times) {
        between(times, 1, 5);
        if (steps.isEmpty()) {
            throw new IllegalStateException();
        }
        int before = sea;
        for (int time = 0; time < times; time++) {
            for (int[] step : steps) {
                wave(step[0], step[1]);
            }
        }
        return sea - before;
    }

    int height(int column, int row) {
        cell(column, row);
        return heights[column][row];
    }

    int flow(int column, int row, char letter) {
        cell(column, row);
        int side = side(letter);
        int column2 = column + COLUMN_STEP[side];
        int row2 = row + ROW_STEP[side];
        int back = inside(column2, row2) ? out[column2][row2][side ^ 1] : 0;
        return out[column][row][side] - back;
    }

    int topplings(int column, int row) {
        cell(column, row);
        return topplings[column][row];
    }

    int highest(int column) {
        cell(column, 0);
        for (int high = 100; high > 0; high--) {
            for (int row = 0; row < 7; row++) {
                if (heights[column][row] == high) {
                    return row;
                }
            }
        }
        return 0;
    }

    int roughness(int column) {
        cell(column, 0);
        int sum = 0;
        for (int row = 0; row < 6; row++) {
            int a = heights[column][row];
            int b = heights[column][row + 1];
            sum += Math.max(a, b) - Math.min(a, b);
        }
        return sum;
    }

    private Set<Integer> reached(int level) {
        Set<Integer> wet = new HashSet<>();
        for (int column = 0; column < 6; column++) {
            if (!closed(column, 0, 0)) {
                reach(column, 0, level, wet);
            }
        }
        return wet;
    }

    private void reach(int column, int row, int level, Set<Integer> wet) {
        if (!inside(column, row) || heights[column][row] >= level || !wet.add(column * 7 + row)) {
            return;
        }
        for (int side = 0; side < 4; side++) {
            if (!closed(column, row, side)) {
                reach(column + COLUMN_STEP[side], row + ROW_STEP[side], level, wet);
            }
        }
    }

    int flooded(int level) {
        between(level, 0, 20);
        return reached(level).size();
    }

    boolean isFlooded(int column, int row, int level) {
        cell(column, row);
        between(level, 0, 20);
        return reached(level).contains(column * 7 + row);
    }

    int sand() {
        int sum = 0;
        for (int[] line : heights) {
            for (int one : line) {
                sum += one;
            }
        }
        return sum;
    }

    int sea() {
        return sea;
    }

    int brought() {
        return brought;
    }

    float meanHeight() {
        return (float) sand() / 42f;
    }

    /** The same as Views.picture. */
    String picture() {
        StringBuilder text = new StringBuilder();
        for (int column = 0; column < 6; column++) {
            for (int row = 0; row < 7; row++) {
                text.append(heights[column][row]).append(planted[column][row] ? "p" : "b").append(topplings[column][row]);
                for (int side = 0; side < 4; side++) {
                    text.append(closed(column, row, side) ? "|" : " ").append(flow(column, row, LETTERS.charAt(side)));
                }
                text.append("; ");
            }
        }
        return text.append(sand()).append(" ").append(sea).append(" ").append(brought).toString();
    }
}
