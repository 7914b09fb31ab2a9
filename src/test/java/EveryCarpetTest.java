/** All 32768 carpets: what is open, what is seen from each cell, and by how few and which all is seen. */
public final class EveryCarpetTest {
    private static final int[][] BETWEEN = new int[15][15];

    public static void main(String[] args) {
        for (int pair = 0; pair < 225; pair++) {
            BETWEEN[pair / 15][pair % 15] = between(pair / 15, pair % 15);
        }
        for (int cover = 0; cover < 1 << 15; cover++) {
            carpet(cover);
        }
        Due.end();
    }

    /** The cells between two, as bits; -1: there is no line. */
    private static int between(int from, int to) {
        if (Lines.distance(from, to) == 0) {
            return -1;
        }
        int bits = 0;
        for (int cell = 0; cell < 15; cell++) {
            bits |= Lines.isBetween(cell, from, to) ? 1 << cell : 0;
        }
        return bits;
    }

    private static void carpet(int cover) {
        String text = Lines.carpet(cover, "00");
        TinSoldiers x = Due.laid(text);
        int[] seen = new int[15];
        for (int cell = 0; cell < 15; cell++) {
            boolean open = (cover >> cell & 1) == 0;
            seen[cell] = open ? seen(cell, cover) : 0;
            Due.is(text + ": cell(" + cell + ", 0)", open ? 1 : 0, x.cell(cell, 0));
            Due.is(text + ": cell(" + cell + ", 2)", seen[cell], x.cell(cell, 2));
        }
        int which = fewest(0x7FFF ^ cover, seen);
        Due.is(text + ": watch(0)", Integer.bitCount(which), x.watch(0));
        Due.is(text + ": watch(1)", which, x.watch(1));
    }

    private static int seen(int from, int cover) {
        int bits = 1 << from;
        for (int to = 0; to < 15; to++) {
            boolean sees = BETWEEN[from][to] >= 0 && (BETWEEN[from][to] & cover) == 0 && (cover >> to & 1) == 0;
            bits |= sees ? 1 << to : 0;
        }
        return bits;
    }

    /** By none, by one, by two and so on: the first set that sees all, going up. */
    private static int fewest(int open, int[] seen) {
        for (int few = 0; few <= 15; few++) {
            int found = leastOf(few, 15, open, 0, seen);
            if (found >= 0) {
                return found;
            }
        }
        throw new IllegalStateException("all open cells see all");
    }

    /** The least set of so many cells below a cell that sees the rest of the open cells; -1: none. */
    private static int leastOf(int few, int below, int open, int done, int[] seen) {
        if (few == 0) {
            return (open & ~done) == 0 ? 0 : -1;
        }
        for (int highest = few - 1; highest < below; highest++) {
            if ((open >> highest & 1) == 1) {
                int rest = leastOf(few - 1, highest, open, done | seen[highest], seen);
                if (rest >= 0) {
                    return rest | 1 << highest;
                }
            }
        }
        return -1;
    }
}
