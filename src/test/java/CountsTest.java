/** Promises 17 to 21: tally, forget, fits, last, afternoons. */
public final class CountsTest {
    private static final String OPEN = "...../...../.....;99";
    private static final int SOLDIER = 0, SPY = 2, GUNNER = 3;

    public static void main(String[] args) {
        tallies();
        waysOfSpies();
        waysOfOthers();
        lastSides();
        lastWithoutFits();
        spiesAreToldApart();
        draws();
        peasOfAfternoons();
        afternoonsRefused();
        Due.end();
    }

    private static void tallies() {
        TinSoldiers x = new TinSoldiers();
        Due.is("tally(-1)", TinSoldiers.OUTSIDE, x.tally(-1));
        Due.is("tally(7)", TinSoldiers.OUTSIDE, x.tally(7));
        for (int many = 1; many <= 6; many++) {
            Due.is("tally, number " + many, many, x.tally(many == 1 ? 0 : 6));
        }
        Due.is("tally(7), full", TinSoldiers.OUTSIDE, x.tally(7));
        Due.refused("tally, number 7", x, x.digest(), TinSoldiers.FULL, x.tally(0));
        Due.is("counts", 6, x.count(9));
        Due.is("forget()", 6, x.forget());
        Due.is("forget() again", 0, x.forget());
        Due.is("counts", 0, x.count(9));
        Due.is("tally(3)", 1, x.tally(3));
    }

    private static void told(TinSoldiers x, int ways, int... counts) {
        x.forget();
        for (int many : counts) {
            x.tally(many);
        }
        Due.is("fits() of " + java.util.Arrays.toString(counts), ways, x.fits());
    }

    private static void waysOfSpies() {
        TinSoldiers x = Due.laid(OPEN);
        Due.is("fits(), none told", 1, x.fits());
        told(x, 1, 0, 0, 0, 0, 0, 0);
        told(x, 0, 1);
        for (int spy = 0; spy < 6; spy++) {
            x.soldier(SPY, spy % 2, spy);
        }
        told(x, 1);
        told(x, 20, 3);
        told(x, 1, 0);
        told(x, 1, 6);
        told(x, 6, 0, 1);
        told(x, 0, 0, 2);
        told(x, 6, 1, 1);
        told(x, 60, 3, 2);
        told(x, 720, 0, 1, 2, 3, 4, 5);
        told(x, 20, 3, 3, 3, 3, 3, 3);
        told(x, 36, 1, 0, 1);
    }

    private static void waysOfOthers() {
        TinSoldiers x = Due.laid(OPEN);
        x.soldier(SOLDIER, 0, 0);
        x.soldier(SOLDIER, 1, 1);
        x.soldier(SPY, 1, 2);
        told(x, 1, 1, 2);
        told(x, 1, 2, 2, 1);
        told(x, 0, 0);
        told(x, 0, 3);
        x.shoot(1, 0, true);
        told(x, 0, 1, 2);
        told(x, 1, 0, 1);
        x.dinner();
        told(x, 0, 0, 1);
        Due.is("fits() without a carpet", TinSoldiers.STATE, new TinSoldiers().fits());
    }

    private static void lastSides() {
        TinSoldiers x = Due.laid(OPEN);
        x.soldier(SOLDIER, 0, 0);
        x.soldier(SPY, 1, 1);
        x.soldier(GUNNER, 1, 2);
        x.soldier(SPY, 0, 8);
        Due.is("last(0), none told", TinSoldiers.NONE, x.last(0));
        told(x, 2, 2);
        Due.is("last(0) of a soldier", 0, x.last(0));
        Due.is("last(2) of a gunner", 1, x.last(2));
        Due.is("last(1), this spy or that", TinSoldiers.NONE, x.last(1));
        Due.is("last(3), this spy or that", TinSoldiers.NONE, x.last(3));
        told(x, 4, 2, 3, 2);
        Due.is("last(1), this spy or that", TinSoldiers.NONE, x.last(1));
        told(x, 2, 2, 3);
        Due.is("last(1), both are over", 0, x.last(1));
        told(x, 2, 2, 1);
        Due.is("last(1), none is over", 1, x.last(1));
        Due.is("last(3), none is over", 1, x.last(3));
        told(x, 0, 0);
        Due.is("last(0), no way", TinSoldiers.NONE, x.last(0));
        Due.is("last(4)", TinSoldiers.UNKNOWN, x.last(4));
        Due.is("last(-1)", TinSoldiers.UNKNOWN, x.last(-1));
        Due.is("shoot(1, 0, true)", 1, x.shoot(1, 0, true));
        Due.is("last(0), fallen", TinSoldiers.STATE, x.last(0));
        x.forget();
        Due.is("last(0), fallen, none told", TinSoldiers.STATE, x.last(0));
    }

    /** last() tells for itself, whatever fits() was asked ahead of it. */
    private static void lastWithoutFits() {
        TinSoldiers x = Due.laid(OPEN);
        x.soldier(SPY, 0, 0);
        x.soldier(SPY, 0, 1);
        x.soldier(SOLDIER, 0, 2);
        x.tally(3);
        Due.is("last(0)", 0, x.last(0));
        x.forget();
        x.tally(1);
        Due.is("last(0)", 1, x.last(0));
        x.forget();
        Due.is("fits(), none told", 1, x.fits());
        x.tally(2);
        Due.is("last(1)", TinSoldiers.NONE, x.last(1));
        Due.is("last(2)", 0, x.last(2));
    }

    /** Three spies, one of which each of the others could stand for: none of them can be told. */
    private static void spiesAreToldApart() {
        TinSoldiers x = Due.laid(OPEN);
        for (int spy = 0; spy < 3; spy++) {
            x.soldier(SPY, 0, spy);
        }
        x.tally(1);
        for (int spy = 0; spy < 3; spy++) {
            Due.is("last(" + spy + ") of three", TinSoldiers.NONE, x.last(spy));
        }
    }

    private static long next(long seed) {
        return (1103515245L * seed + 12345L) % (1L << 31);
    }

    /** One soldier can never shoot: two draws each time, by which the seed goes on. */
    private static void draws() {
        TinSoldiers x = Due.laid(OPEN);
        x.soldier(SOLDIER, 0, 0);
        for (int seed : new int[] {0, 1, 77, 2147483647}) {
            long then = seed;
            for (int times = 1; times <= 60; times++) {
                then = next(next(then));
                Due.is("afternoons(" + times + ", " + seed + ", 2)", then, x.afternoons(times, seed, 2));
            }
            Due.is("nobody fell", 0, x.afternoons(60, seed, 0));
            Due.is("no pea is taken", 18, x.afternoons(60, seed, 1));
        }
    }

    /** Two soldiers face to face: each time told by its draws, and the pea goes whether it hits or not. */
    private static void peasOfAfternoons() {
        TinSoldiers x = Due.laid("...../...../.....;94");
        x.soldier(SOLDIER, 0, 0);
        x.soldier(SOLDIER, 1, 4);
        long before = x.digest();
        for (int seed = 0; seed < 40; seed++) {
            long a = next(seed);
            long b = next(a);
            boolean shoots = (a / 65536) % 2 != (b / 65536) % 2;
            long then = shoots ? next(b) : b;
            boolean hits = shoots && (then / 65536) % 10 < 2;
            Due.is("afternoons(1, " + seed + ", 0)", hits ? 1 : 0, x.afternoons(1, seed, 0));
            Due.is("afternoons(1, " + seed + ", 1)", shoots ? 12 : 13, x.afternoons(1, seed, 1));
            Due.is("afternoons(1, " + seed + ", 2)", then, x.afternoons(1, seed, 2));
        }
        Due.is("all is as it was", before, x.digest());
    }

    private static void afternoonsRefused() {
        TinSoldiers x = Due.laid(OPEN);
        Due.is("afternoons(1, 1, 0), no soldiers", TinSoldiers.STATE, x.afternoons(1, 1, 0));
        Due.is("afternoons(0, 1, 0), no soldiers", TinSoldiers.OUTSIDE, x.afternoons(0, 1, 0));
        x.soldier(SOLDIER, 0, 0);
        Due.is("afternoons(0, 1, 0)", TinSoldiers.OUTSIDE, x.afternoons(0, 1, 0));
        Due.is("afternoons(61, 1, 0)", TinSoldiers.OUTSIDE, x.afternoons(61, 1, 0));
        Due.is("afternoons(1, -1, 0)", TinSoldiers.OUTSIDE, x.afternoons(1, -1, 0));
        Due.is("afternoons(1, 1, 3)", TinSoldiers.OUTSIDE, x.afternoons(1, 1, 3));
        Due.is("afternoons(1, 1, -1)", TinSoldiers.OUTSIDE, x.afternoons(1, 1, -1));
        Due.is("afternoons(60, 0, 1)", 18, x.afternoons(60, 0, 1));
    }
}
