/** All lines of a carpet, written out by hand: rows, columns, diagonals that fall, diagonals that rise. */
final class Lines {
    static final int CELLS = 15;

    private static final int[][] ALL = {
        {0, 1, 2, 3, 4}, {5, 6, 7, 8, 9}, {10, 11, 12, 13, 14},
        {0, 5, 10}, {1, 6, 11}, {2, 7, 12}, {3, 8, 13}, {4, 9, 14},
        {0, 6, 12}, {1, 7, 13}, {2, 8, 14}, {3, 9}, {5, 11},
        {10, 6, 2}, {11, 7, 3}, {12, 8, 4}, {13, 9}, {5, 1},
    };

    /** Of each cell those around it. */
    private static final int[][] AROUND = {
        {1, 5, 6}, {0, 2, 5, 6, 7}, {1, 3, 6, 7, 8}, {2, 4, 7, 8, 9}, {3, 8, 9},
        {0, 1, 6, 10, 11}, {0, 1, 2, 5, 7, 10, 11, 12}, {1, 2, 3, 6, 8, 11, 12, 13},
        {2, 3, 4, 7, 9, 12, 13, 14}, {3, 4, 8, 13, 14},
        {5, 6, 11}, {5, 6, 7, 10, 12}, {6, 7, 8, 11, 13}, {7, 8, 9, 12, 14}, {8, 9, 13},
    };

    private Lines() {
    }

    /** How many cells the line goes on; 0: there is none. */
    static int distance(int from, int to) {
        for (int[] line : ALL) {
            if (from != to && indexOf(line, from) >= 0 && indexOf(line, to) >= 0) {
                return Math.abs(indexOf(line, from) - indexOf(line, to));
            }
        }
        return 0;
    }

    static boolean isBetween(int cell, int from, int to) {
        for (int[] line : ALL) {
            int a = indexOf(line, from);
            int b = indexOf(line, to);
            int c = indexOf(line, cell);
            if (a >= 0 && b >= 0 && c >= 0 && Math.min(a, b) < c && c < Math.max(a, b)) {
                return true;
            }
        }
        return false;
    }

    /** Of the cells of one line, which comes right behind "over", for one that comes from "from"; -1: none. */
    static int behind(int from, int over) {
        for (int[] line : ALL) {
            int a = indexOf(line, from);
            int b = indexOf(line, over);
            if (a >= 0 && b >= 0 && a != b) {
                int next = b + (b > a ? 1 : -1);
                return next >= 0 && next < line.length ? line[next] : -1;
            }
        }
        return -1;
    }

    static boolean isAround(int cell, int other) {
        return indexOf(AROUND[other], cell) >= 0;
    }

    private static int indexOf(int[] cells, int cell) {
        for (int i = 0; i < cells.length; i++) {
            if (cells[i] == cell) {
                return i;
            }
        }
        return -1;
    }

    /** A carpet on which these cells alone are cover. */
    static String carpet(int cover, String peas) {
        StringBuilder text = new StringBuilder();
        for (int cell = 0; cell < CELLS; cell++) {
            text.append(cell > 0 && cell % 5 == 0 ? "/" : "").append((cover >> cell & 1) == 1 ? '#' : '.');
        }
        return text.append(';').append(peas).toString();
    }
}
