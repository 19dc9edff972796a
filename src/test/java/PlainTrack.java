/**
 * The track once more, held in another way: a grid of notches that is turned and passed on whole.
 * It shares nothing with BraidHorns, so that ModelTest can compare the two.
 */
final class PlainTrack implements Cloneable {
    int[] settings = {3, 2, 60};
    int[][] grid = emptyGrid(6);
    // By carrier: ells, broken, inner, outer, spent.
    int[][] about = new int[10][5];
    int steps, cord, knots, waste, filled, spent, reason;

    static int[][] emptyGrid(int horns) {
        int[][] grid = new int[horns][4];
        for (int[] horn : grid) {
            java.util.Arrays.fill(horn, -1);
        }
        return grid;
    }

    PlainTrack copy() {
        try {
            PlainTrack copy = (PlainTrack) clone();
            copy.settings = settings.clone();
            copy.grid = copyOf(grid);
            copy.about = copyOf(about);
            return copy;
        } catch (CloneNotSupportedException e) {
            throw new IllegalStateException(e);
        }
    }

    private static int[][] copyOf(int[][] rows) {
        int[][] copy = new int[rows.length][];
        for (int i = 0; i < rows.length; i++) {
            copy[i] = rows[i].clone();
        }
        return copy;
    }

    int horns() {
        return grid.length;
    }

    int[] where(int carrier) {
        for (int h = 0; h < horns(); h++) {
            for (int n = 0; n < 4; n++) {
                if (grid[h][n] == carrier) {
                    return new int[] {h, n};
                }
            }
        }
        return null;
    }

    boolean has(int carrier) {
        return carrier >= 0 && carrier < 10 && where(carrier) != null;
    }

    int carriers() {
        int carriers = 0;
        for (int c = 0; c < 10; c++) {
            carriers += has(c) ? 1 : 0;
        }
        return carriers;
    }

    boolean isPlace(int horn, int notch) {
        return horn >= 0 && horn < horns() && notch >= 0 && notch < 4;
    }

    boolean isOpen(int h, int n) {
        if (grid[h][n] >= 0) {
            return false;
        }
        if (n == 0) {
            return grid[(h + 1) % horns()][2] < 0;
        }
        return n != 2 || grid[(h + horns() - 1) % horns()][0] < 0;
    }

    static int[][] turned(int[][] grid) {
        int[][] next = emptyGrid(grid.length);
        for (int h = 0; h < grid.length; h++) {
            for (int n = 0; n < 4; n++) {
                next[h][h % 2 == 0 ? (n + 1) % 4 : (n + 3) % 4] = grid[h][n];
            }
        }
        return next;
    }

    static int contact(int[][] turned) {
        for (int h = 0; h < turned.length; h++) {
            if (turned[h][0] >= 0 && turned[(h + 1) % turned.length][2] >= 0) {
                return h;
            }
        }
        return -1;
    }

    static int[][] passed(int[][] turned) {
        int[][] next = copyOf(turned);
        for (int h = 0; h < turned.length; h++) {
            int other = (h + 1) % turned.length;
            next[h][0] = turned[other][2];
            next[other][2] = turned[h][0];
        }
        return next;
    }

    int why() {
        if (carriers() == 0) {
            return 1;
        }
        boolean empty = false;
        for (int c = 0; c < 10; c++) {
            if (has(c) && about[c][1] == 1) {
                return 2;
            }
            empty |= has(c) && about[c][0] == 0;
        }
        return empty ? 3 : contact(turned(grid)) >= 0 ? 4 : 0;
    }

    void step() {
        int[][] turned = turned(grid);
        for (int h = 0; h < horns(); h++) {
            for (int n = 0; n < 4; n++) {
                int c = turned[h][n];
                if (c >= 0) {
                    about[c][0]--;
                    about[c][4]++;
                    about[c][2] += n == 1 ? 1 : 0;
                    about[c][3] += n == 3 ? 1 : 0;
                    spent++;
                }
            }
        }
        grid = passed(turned);
        cord += settings[1];
        steps++;
    }

    int change(char letter, int a, int b) {
        switch (letter) {
            case 's': return set(a, b);
            case 'c': return carrier(a, b);
            case 'r': return run(a);
            default: break;
        }
        if (!has(a)) {
            return -1;
        }
        int ells = about[a][0];
        if (letter == 'x') {
            waste += ells;
            int[] w = where(a);
            grid[w[0]][w[1]] = -1;
            return ells;
        }
        if (letter == 'f') {
            waste += ells;
            filled += settings[2];
            about[a][0] = settings[2];
            return ells;
        }
        boolean snaps = letter == 'b';
        if (snaps == (about[a][1] == 1)) {
            return -5;
        }
        about[a][1] = snaps ? 1 : 0;
        if (!snaps) {
            return ++knots;
        }
        int broken = 0;
        for (int c = 0; c < 10; c++) {
            broken += has(c) ? about[c][1] : 0;
        }
        return broken;
    }

    private int set(int setting, int value) {
        int[][] ranges = {{2, 6}, {1, 9}, {1, 999}};
        if (setting < 0 || setting > 2 || value < ranges[setting][0] || value > ranges[setting][1]) {
            return -2;
        }
        if (setting == 0 && carriers() > 0) {
            return -5;
        }
        int before = settings[setting];
        settings[setting] = value;
        if (setting == 0) {
            grid = emptyGrid(2 * value);
        }
        return before;
    }

    private int carrier(int horn, int notch) {
        if (!isPlace(horn, notch)) {
            return -1;
        }
        if (!isOpen(horn, notch)) {
            return -5;
        }
        for (int c = 0; c < 10; c++) {
            if (!has(c)) {
                grid[horn][notch] = c;
                about[c] = new int[] {settings[2], 0, 0, 0, 0};
                filled += settings[2];
                return c;
            }
        }
        return -4;
    }

    private int run(int wanted) {
        if (wanted < 1 || wanted > 99) {
            return -2;
        }
        if (steps + wanted > 9999) {
            return -5;
        }
        for (int done = 0; done < wanted; done++) {
            reason = why();
            if (reason != 0) {
                return done;
            }
            step();
        }
        reason = 0;
        return wanted;
    }

    int of(int carrier, int what) {
        if (!has(carrier)) {
            return -1;
        }
        int[] w = where(carrier);
        switch (what) {
            case 0: case 1: return w[what];
            case 2: return about[carrier][0];
            case 3: return about[carrier][1];
            case 4: case 5: case 6: return about[carrier][what - 2];
            case 7: return goesUp(carrier) ? 1 : 0;
            default: return -2;
        }
    }

    /** Followed alone until it is on another horn. */
    private boolean goesUp(int carrier) {
        PlainTrack alone = copy();
        int[] w = where(carrier);
        alone.grid = emptyGrid(horns());
        alone.grid[w[0]][w[1]] = carrier;
        while (true) {
            int horn = alone.where(carrier)[0];
            alone.step();
            int next = alone.where(carrier)[0];
            if (next != horn) {
                return next == (horn + 1) % horns();
            }
        }
    }

    int count(int what) {
        int set = 0;
        int ells = 0;
        for (int c = 0; c < 10; c++) {
            set |= has(c) ? 1 << c : 0;
            ells += has(c) ? about[c][0] : 0;
        }
        int[] all = {horns(), set, steps, cord, knots, waste, filled, ells, spent, reason,
            settings[0], settings[1], settings[2]};
        return all[what];
    }

    int around(int rank) {
        int seen = 0;
        for (int h = 0; h < horns(); h++) {
            for (int n = 0; n < 4; n++) {
                if (grid[h][n] >= 0 && seen++ == rank) {
                    return grid[h][n];
                }
            }
        }
        return -1;
    }

    /** All four answers of meeting(), or null. */
    static int[] meeting(int[][] start) {
        int[][] now = start;
        for (int step = 1; step <= 100; step++) {
            int[][] turned = turned(now);
            int h = contact(turned);
            if (h >= 0) {
                return new int[] {step, h, turned[h][0], turned[(h + 1) % turned.length][2]};
            }
            now = passed(turned);
        }
        return null;
    }

    int meeting(int what) {
        int[] met = meeting(grid);
        return what < 0 || what > 3 ? -2 : met == null ? -6 : met[what];
    }

    /** {free(), firstFree()}. */
    int[] freePlaces() {
        int[] found = {0, -6};
        for (int h = 0; h < horns(); h++) {
            for (int n = 0; n < 4; n++) {
                int[][] more = copyOf(grid);
                more[h][n] = 10;
                if (isOpen(h, n) && meeting(more) == null) {
                    found[1] = found[0] == 0 ? 4 * h + n : found[1];
                    found[0]++;
                }
            }
        }
        return found;
    }

    int period() {
        if (carriers() == 0) {
            return -5;
        }
        int[][] now = grid;
        for (int step = 1; step <= 100; step++) {
            int[][] turned = turned(now);
            if (contact(turned) >= 0) {
                return -6;
            }
            now = passed(turned);
            boolean same = true;
            for (int i = 0; i < 4 * horns(); i++) {
                same &= now[i / 4][i % 4] >= 0 == grid[i / 4][i % 4] >= 0;
            }
            if (same) {
                return step;
            }
        }
        return -6;
    }

    int lasts() {
        PlainTrack ahead = copy();
        int steps = 0;
        while (ahead.why() == 0) {
            ahead.step();
            steps++;
        }
        return steps;
    }
}
