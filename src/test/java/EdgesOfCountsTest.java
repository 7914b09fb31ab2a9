import java.math.BigInteger;
import java.util.Arrays;

/** Each sentence about counts and afternoons that names an edge: promises 17 to 21, and their terms. */
public final class EdgesOfCountsTest {
    private static final int NONE = -1, UNKNOWN = -101, OUTSIDE = -102, STATE = -103, FULL = -104;
    private static final int SOLDIER = 0, OFFICER = 1, SPY = 2, GUNNER = 3, BENT = 4;
    private static final String OPEN = "...../...../.....;99";

    public static void main(String[] args) {
        howManyToTell();
        sixCountsAtMost();
        refusalsOfTallyInOrder();
        talliesWithoutCarpet();
        forgetting();
        fitsWithoutCarpet();
        noneToldOneWay();
        oneMorning();
        oneOrNobodyANight();
        fiveNights();
        spiesOfEitherSide();
        allButSpies();
        whoFellIsNotCounted();
        numbersOfLast();
        lastOfFallen();
        lastOfNoneTold();
        lastOfNoWay();
        lastIfItIsNotOne();
        lastOfEachSide();
        lastOfTheLastMorning();
        timesOfAfternoons();
        seedsOfAfternoons();
        whatOfAfternoons();
        afternoonsWithoutSoldiers();
        refusalsOfAfternoonsInOrder();
        restOfSeeds();
        drawsOfHowMany();
        belowItsTenths();
        noDrawIfItCannot();
        peasRunOut();
        fellOrWentOver();
        asTheyWouldBe();
        Due.end();
    }

    private static TinSoldiers spies(int many) {
        TinSoldiers x = Due.laid(OPEN);
        for (int spy = 0; spy < many; spy++) {
            x.soldier(SPY, spy % 2, spy);
        }
        return x;
    }

    private static void tell(TinSoldiers x, int... counts) {
        x.forget();
        for (int many : counts) {
            x.tally(many);
        }
    }

    private static void fits(TinSoldiers x, int ways, int... counts) {
        tell(x, counts);
        Due.is("fits() of " + Arrays.toString(counts), ways, x.fits());
    }

    // ---- tally, forget

    private static void howManyToTell() {
        Due.says("A COUNT: how many there are. OUTSIDE: many (0 to 6); FULL.");
        TinSoldiers x = Due.laid(OPEN);
        Due.refused("tally(-1)", x, x.digest(), OUTSIDE, x.tally(-1));
        Due.refused("tally(7)", x, x.digest(), OUTSIDE, x.tally(7));
        for (int far : Due.FAR) {
            Due.is("tally(" + far + ")", OUTSIDE, x.tally(far));
        }
        for (int many = 0; many <= 6; many++) {
            x.forget();
            Due.is("tally(" + many + ")", 1, x.tally(many));
            Due.is("counts", 1, x.count(9));
        }
    }

    private static void sixCountsAtMost() {
        Due.says("COUNTS (6 at most): how many of SIDE 0 STAND at one morning, at the next one, and so on.");
        TinSoldiers x = Due.laid(OPEN);
        for (int round = 0; round < 2; round++) {
            for (int number = 1; number <= 6; number++) {
                Due.is("tally(0) number " + number, number, x.tally(0));
            }
            Due.refused("tally(0) number 7", x, x.digest(), FULL, x.tally(0));
            Due.refused("tally(6) number 7", x, x.digest(), FULL, x.tally(6));
            Due.is("fits() of the six", 1, x.fits());
            Due.is("forget()", 6, x.forget());
        }
    }

    private static void refusalsOfTallyInOrder() {
        Due.says("OUTSIDE: many (0 to 6); FULL.");
        TinSoldiers x = Due.laid(OPEN);
        tell(x, 0, 0, 0, 0, 0, 0);
        Due.is("tally(-1), full", OUTSIDE, x.tally(-1));
        Due.is("tally(7), full", OUTSIDE, x.tally(7));
    }

    private static void talliesWithoutCarpet() {
        Due.says("A COUNT: how many there are.");
        TinSoldiers x = new TinSoldiers();
        for (int number = 1; number <= 6; number++) {
            Due.is("tally(6) number " + number, number, x.tally(6));
        }
        Due.is("tally(6) number 7", FULL, x.tally(6));
        Due.is("forget()", 6, x.forget());
    }

    private static void forgetting() {
        Due.says("All COUNTS are gone: how many there were.");
        TinSoldiers x = spies(2);
        for (int many = 0; many <= 6; many++) {
            tell(x, new int[many]);
            Due.is("counts", many, x.count(9));
            Due.is("forget() of " + many, many, x.forget());
            Due.is("counts", 0, x.count(9));
            Due.is("forget() again", 0, x.forget());
        }
        fits(x, 1, 2);
        fits(x, 2, 1);
    }

    // ---- fits

    private static void fitsWithoutCarpet() {
        Due.says("FITS. STATE: no CARPET.");
        TinSoldiers x = new TinSoldiers();
        Due.refused("fits()", x, x.digest(), STATE, x.fits());
        x.tally(0);
        Due.refused("fits() with a count", x, x.digest(), STATE, x.fits());
        Due.is("fits() with a carpet of cover", 1, Due.laid("#####/#####/#####;00").fits());
    }

    private static void noneToldOneWay() {
        Due.says("(none told: 1 way)");
        for (int many = 0; many <= 6; many++) {
            TinSoldiers x = spies(many);
            Due.is("fits() with " + many + " spies", 1, x.fits());
            for (int told = 0; told <= many; told++) {
                tell(x, told);
                Due.holds("there are ways", x.fits() > 0);
                fits(x, 1);
            }
        }
    }

    private static void oneMorning() {
        Due.says("of which SIDE each SPY is at the first morning");
        int[][] ways = {{1}, {1, 1}, {1, 2, 1}, {1, 3, 3, 1}, {1, 4, 6, 4, 1}, {1, 5, 10, 10, 5, 1}, {1, 6, 15, 20, 15, 6, 1}};
        for (int many = 0; many <= 6; many++) {
            TinSoldiers x = spies(many);
            for (int told = 0; told <= 6; told++) {
                fits(x, told <= many ? ways[many][told] : 0, told);
            }
        }
    }

    private static void oneOrNobodyANight() {
        Due.says("in each night between two mornings one SPY goes over, or nobody does");
        TinSoldiers x = spies(3);
        fits(x, 1, 0, 0);
        fits(x, 3, 0, 1);
        fits(x, 0, 0, 2);
        fits(x, 0, 0, 3);
        fits(x, 3, 1, 1);
        fits(x, 6, 1, 2);
        fits(x, 3, 1, 0);
        fits(x, 0, 3, 1);
        fits(x, 3, 3, 2);
        fits(x, 0, 1, 2, 2, 0);
        fits(Due.laid(OPEN), 1, 0, 0);
        fits(Due.laid(OPEN), 0, 0, 1);
    }

    private static void fiveNights() {
        Due.says("and who goes over in which night");
        TinSoldiers x = spies(6);
        fits(x, 720, 0, 1, 2, 3, 4, 5);
        fits(x, 720, 6, 5, 4, 3, 2, 1);
        fits(x, 20, 3, 3, 3, 3, 3, 3);
        fits(x, 1, 0, 0, 0, 0, 0, 0);
        fits(x, 20 * 3 * 4 * 3 * 4 * 3, 3, 2, 3, 2, 3, 2);
        fits(x, 0, 0, 1, 2, 3, 4, 6);
        x = spies(1);
        fits(x, 1, 0, 1, 0, 1, 0, 1);
        fits(x, 1, 1, 1, 0, 0, 0, 1);
    }

    private static void spiesOfEitherSide() {
        Due.says("all but SPIES are of the SIDE that they are of now");
        for (int side = 0; side <= 1; side++) {
            TinSoldiers x = Due.army(OPEN, SPY, side, 0);
            fits(x, 1, 0);
            fits(x, 1, 1);
            fits(x, 1, 1, 0);
        }
        TinSoldiers x = Due.army(OPEN, SPY, 1, 0, SOLDIER, 0, 1);
        x.shoot(1, 0, true);
        fits(x, 1, 1);
        fits(x, 1, 2);
    }

    private static void allButSpies() {
        Due.says("all but SPIES are of the SIDE that they are of now");
        for (int kind : new int[] {SOLDIER, OFFICER, GUNNER, BENT}) {
            TinSoldiers x = Due.army(OPEN, kind, 0, 0, kind, 1, 1);
            fits(x, 0, 0);
            fits(x, 1, 1);
            fits(x, 0, 2);
            fits(x, 1, 1, 1, 1, 1, 1, 1);
            fits(x, 0, 1, 0);
            fits(x, 0, 1, 2);
        }
        TinSoldiers x = Due.laid(OPEN);
        for (int one = 0; one < 6; one++) {
            x.soldier(SOLDIER, 0, one);
        }
        fits(x, 1, 6, 6);
        fits(x, 0, 5);
    }

    private static void whoFellIsNotCounted() {
        Due.says("All that STAND now do so at all of these");
        TinSoldiers x = Due.army(OPEN, SOLDIER, 0, 0, SOLDIER, 1, 1, OFFICER, 0, 2);
        fits(x, 1, 2);
        x.shoot(1, 2, true);
        fits(x, 1, 2);
        x.shoot(1, 0, true);
        fits(x, 1, 1);
        fits(x, 0, 2);
        x.shoot(1, 2, true);
        fits(x, 1, 0);
        fits(x, 0, 1);
        x.dinner();
        fits(x, 1, 2);
    }

    // ---- last

    private static void numbersOfLast() {
        Due.says("LAST; NONE: it is not one, or there is no such way, or none is told. UNKNOWN; STATE: it does not STAND.");
        TinSoldiers x = Due.army(OPEN, SOLDIER, 0, 0, SOLDIER, 1, 1);
        tell(x, 1);
        Due.is("last(-1)", UNKNOWN, x.last(-1));
        Due.is("last(0)", 0, x.last(0));
        Due.is("last(1)", 1, x.last(1));
        Due.is("last(2)", UNKNOWN, x.last(2));
        for (int far : Due.FAR) {
            Due.is("last(" + far + ")", UNKNOWN, x.last(far));
        }
        Due.is("last(0) without a carpet", UNKNOWN, new TinSoldiers().last(0));
        Due.is("last(0) without soldiers", UNKNOWN, Due.laid(OPEN).last(0));
    }

    private static void lastOfFallen() {
        Due.says("STATE: it does not STAND.");
        TinSoldiers x = Due.army(OPEN, SOLDIER, 0, 0, OFFICER, 1, 1);
        tell(x, 1);
        x.shoot(0, 1, true);
        Due.is("last(1), hit once", 1, x.last(1));
        x.shoot(0, 1, true);
        Due.refused("last(1), fallen", x, x.digest(), STATE, x.last(1));
        tell(x, 5);
        Due.is("last(1), fallen, no way", STATE, x.last(1));
        x.forget();
        Due.is("last(1), fallen, none told", STATE, x.last(1));
        tell(x, 1);
        x.dinner();
        Due.is("last(1), stood up", 1, x.last(1));
    }

    private static void lastOfNoneTold() {
        Due.says("or none is told");
        TinSoldiers x = Due.army(OPEN, SOLDIER, 0, 0, SPY, 1, 1);
        Due.is("last(0)", NONE, x.last(0));
        Due.is("last(1)", NONE, x.last(1));
        tell(x, 1);
        Due.is("last(0), told", 0, x.last(0));
        x.forget();
        Due.is("last(0), forgotten", NONE, x.last(0));
    }

    private static void lastOfNoWay() {
        Due.says("or there is no such way");
        TinSoldiers x = Due.army(OPEN, SOLDIER, 0, 0, SOLDIER, 1, 5, SPY, 1, 1, SPY, 1, 2);
        for (int[] counts : new int[][] {{0}, {4}, {6}, {1, 3}, {3, 1}, {1, 2, 0}}) {
            tell(x, counts);
            for (int one = 0; one < 4; one++) {
                Due.is("last(" + one + ")", NONE, x.last(one));
            }
        }
    }

    private static void lastIfItIsNotOne() {
        Due.says("of which SIDE one is at the last of these mornings, if that is one in all such ways");
        for (int many = 2; many <= 6; many++) {
            TinSoldiers x = spies(many);
            for (int told = 1; told < many; told++) {
                tell(x, told);
                for (int one = 0; one < many; one++) {
                    Due.is("last(" + one + ") of " + many + ", told " + told, NONE, x.last(one));
                }
            }
        }
    }

    private static void lastOfEachSide() {
        Due.says("LAST: of which SIDE one is at the last of these mornings");
        for (int many = 1; many <= 6; many++) {
            TinSoldiers x = spies(many);
            for (int one = 0; one < many; one++) {
                tell(x, 0);
                Due.is("none of side 0", 1, x.last(one));
                tell(x, many);
                Due.is("all of side 0", 0, x.last(one));
            }
        }
        TinSoldiers x = Due.army(OPEN, SOLDIER, 1, 0, SPY, 0, 1, GUNNER, 0, 2, SPY, 0, 3, SPY, 1, 4, BENT, 1, 5);
        int[] one = {1, NONE, 0, NONE, NONE, 1};
        tell(x, 2);
        for (int i = 0; i < 6; i++) {
            Due.is("one spy of three: last(" + i + ")", one[i], x.last(i));
        }
        int[] none = {1, 1, 0, 1, 1, 1};
        tell(x, 1);
        for (int i = 0; i < 6; i++) {
            Due.is("no spy of three: last(" + i + ")", none[i], x.last(i));
        }
    }

    private static void lastOfTheLastMorning() {
        Due.says("at the last of these mornings");
        TinSoldiers x = Due.army(OPEN, SPY, 0, 0, SPY, 1, 1);
        tell(x, 0, 1, 2);
        Due.is("both at last", 0, x.last(0));
        tell(x, 2, 1, 0);
        Due.is("none at last", 1, x.last(1));
        tell(x, 2, 1);
        Due.is("one at last", NONE, x.last(0));
        tell(x, 0, 1, 2, 1, 0, 0);
        Due.is("none at the sixth", 1, x.last(0));
        x = Due.army(OPEN, SPY, 0, 0);
        for (int mornings = 1; mornings <= 6; mornings++) {
            int[] counts = new int[mornings];
            for (int i = 0; i < mornings; i++) {
                counts[i] = i % 2;
            }
            tell(x, counts);
            Due.is("morning " + mornings, mornings % 2, x.last(0));
        }
    }

    // ---- afternoons

    private static void timesOfAfternoons() {
        Due.says("OUTSIDE: times (1 to 60), seed (0 at least), what; STATE: there are no soldiers.");
        TinSoldiers x = Due.army(OPEN, SOLDIER, 0, 0);
        for (int what = 0; what <= 2; what++) {
            Due.is("afternoons(0, 1, " + what + ")", OUTSIDE, x.afternoons(0, 1, what));
            Due.is("afternoons(61, 1, " + what + ")", OUTSIDE, x.afternoons(61, 1, what));
            Due.is("afternoons(-1, 1, " + what + ")", OUTSIDE, x.afternoons(-1, 1, what));
            for (int far : Due.FAR) {
                Due.is("afternoons(" + far + ", 1, " + what + ")", OUTSIDE, x.afternoons(far, 1, what));
            }
        }
        Due.is("afternoons(1, 1, 1)", 18, x.afternoons(1, 1, 1));
        Due.is("afternoons(60, 1, 1)", 18, x.afternoons(60, 1, 1));
        long seed = 1;
        for (int times = 1; times <= 60; times++) {
            seed = next(next(seed));
            Due.is("afternoons(" + times + ", 1, 2)", seed, x.afternoons(times, 1, 2));
        }
    }

    private static void seedsOfAfternoons() {
        Due.says("seed (0 at least)");
        TinSoldiers x = Due.army(OPEN, SOLDIER, 0, 0);
        for (int what = 0; what <= 2; what++) {
            Due.is("afternoons(1, -1, " + what + ")", OUTSIDE, x.afternoons(1, -1, what));
            Due.is("the least number", OUTSIDE, x.afternoons(1, Integer.MIN_VALUE, what));
        }
        Due.is("afternoons(1, 0, 0)", 0, x.afternoons(1, 0, 0));
        Due.is("afternoons(1, 0, 2)", next(next(0)), x.afternoons(1, 0, 2));
        Due.is("afternoons(1, 2147483647, 0)", 0, x.afternoons(1, 2147483647, 0));
        Due.is("afternoons(1, 2147483647, 2)", next(next(2147483647)), x.afternoons(1, 2147483647, 2));
    }

    private static void whatOfAfternoons() {
        Due.says("AFTERNOONS: what = 0 how many, 1 PEAS of both SIDES then, 2 the SEED then.");
        TinSoldiers x = Due.army(OPEN, SOLDIER, 0, 0);
        Due.is("afternoons(1, 1, -1)", OUTSIDE, x.afternoons(1, 1, -1));
        Due.is("afternoons(1, 1, 3)", OUTSIDE, x.afternoons(1, 1, 3));
        for (int far : Due.FAR) {
            Due.is("afternoons(1, 1, " + far + ")", OUTSIDE, x.afternoons(1, 1, far));
        }
        Due.is("how many", 0, x.afternoons(1, 1, 0));
        Due.is("peas", 18, x.afternoons(1, 1, 1));
        Due.is("seed", next(next(1)), x.afternoons(1, 1, 2));
        Due.is("no peas", 0, Due.army("...../...../.....;00", SOLDIER, 0, 0).afternoons(1, 1, 1));
        Due.is("peas of side 0", 4, Due.army("...../...../.....;40", SOLDIER, 0, 0).afternoons(1, 1, 1));
        Due.is("peas of side 1", 5, Due.army("...../...../.....;05", SOLDIER, 0, 0).afternoons(1, 1, 1));
    }

    private static void afternoonsWithoutSoldiers() {
        Due.says("STATE: there are no soldiers.");
        for (int what = 0; what <= 2; what++) {
            Due.is("without a carpet", STATE, new TinSoldiers().afternoons(1, 0, what));
            Due.is("without soldiers", STATE, Due.laid(OPEN).afternoons(60, 0, what));
        }
        TinSoldiers x = Due.laid(OPEN);
        x.image();
        x.soldier(SOLDIER, 0, 0);
        Due.is("with one", 0, x.afternoons(1, 0, 0));
        x.restore();
        Due.is("gone by restore()", STATE, x.afternoons(1, 0, 0));
        x.soldier(SOLDIER, 0, 0);
        Due.write(x, OPEN);
        x.carpet();
        Due.is("gone with the carpet", STATE, x.afternoons(1, 0, 0));
    }

    private static void refusalsOfAfternoonsInOrder() {
        Due.says("of several the first as told by each call");
        TinSoldiers x = new TinSoldiers();
        Due.is("times without soldiers", OUTSIDE, x.afternoons(0, 0, 0));
        Due.is("times without soldiers", OUTSIDE, x.afternoons(61, 0, 0));
        Due.is("seed without soldiers", OUTSIDE, x.afternoons(1, -1, 0));
        Due.is("what without soldiers", OUTSIDE, x.afternoons(1, 0, 3));
    }

    private static long next(long seed) {
        BigInteger product = BigInteger.valueOf(1103515245).multiply(BigInteger.valueOf(seed));
        return product.add(BigInteger.valueOf(12345)).mod(BigInteger.TWO.pow(31)).longValueExact();
    }

    /** The seed goes round at 2 to the 31, and is never below 0. */
    private static void restOfSeeds() {
        Due.says("the next SEED each time: 1103515245 times it and 12345, its rest by 2 to the 31");
        TinSoldiers x = Due.army(OPEN, SOLDIER, 0, 0);
        for (int seed : new int[] {0, 1, 2, 3, 1 << 16, 1 << 30, (1 << 30) - 1, 2147483646, 2147483647}) {
            long then = seed;
            for (int times = 1; times <= 12; times++) {
                then = next(next(then));
                Due.is("afternoons(" + times + ", " + seed + ", 2)", then, x.afternoons(times, seed, 2));
                Due.holds("0 at least", x.afternoons(times, seed, 2) >= 0);
            }
        }
        Due.is("12345, then", 1406932606, x.afternoons(1, 0, 2));
    }

    private static void drawsOfHowMany() {
        Due.says("by a DRAW of how many soldiers there are each, first one, then at whom");
        for (int many = 1; many <= 6; many++) {
            // Numbers below many - 1 are of side 0 in the first row; the last one faces the first from below.
            TinSoldiers x = Due.laid(OPEN);
            for (int one = 0; one < many - 1; one++) {
                x.soldier(SOLDIER, 0, one);
            }
            x.soldier(GUNNER, 1, 10);
            for (int seed = 0; seed < 40; seed++) {
                long first = next(seed);
                long second = next(first);
                int a = (int) (first / 65536 % many);
                int b = (int) (second / 65536 % many);
                int tenths = x.tenths(a, b);
                long then = tenths > 0 ? next(second) : second;
                boolean hits = tenths > 0 && then / 65536 % 10 < tenths;
                Due.is("how many, " + many + ", seed " + seed, hits ? 1 : 0, x.afternoons(1, seed, 0));
                Due.is("peas, " + many + ", seed " + seed, tenths > 0 ? 17 : 18, x.afternoons(1, seed, 1));
                Due.is("seed, " + many + ", seed " + seed, then, x.afternoons(1, seed, 2));
            }
        }
    }

    /** Of two that face one another: a seed by which the third draw is just so. */
    private static int seedWith(int draw) {
        for (int seed = 0; seed < 1000000; seed++) {
            long first = next(seed);
            long second = next(first);
            boolean firstShoots = first / 65536 % 2 == 0 && second / 65536 % 2 == 1;
            if (firstShoots && next(second) / 65536 % 10 == draw) {
                return seed;
            }
        }
        return NONE;
    }

    private static void belowItsTenths() {
        Due.says("by a DRAW of 10 below its TENTHS it HITS (a PEA is taken whether it does or not)");
        for (int distance = 1; distance <= 4; distance++) {
            for (int kind : new int[] {SOLDIER, GUNNER}) {
                TinSoldiers x = Due.army(OPEN, kind, 0, 0, SOLDIER, 1, distance);
                for (int draw = 0; draw <= 9; draw++) {
                    int seed = seedWith(draw);
                    boolean hits = draw < x.tenths(0, 1);
                    Due.is("draw " + draw + " of " + x.tenths(0, 1), hits ? 1 : 0, x.afternoons(1, seed, 0));
                    Due.is("a pea is taken", 17, x.afternoons(1, seed, 1));
                }
            }
        }
        TinSoldiers x = Due.army("...../....#/.....;99", SOLDIER, 0, 0, SOLDIER, 1, 4);
        Due.is("draw 0 of 1", 1, x.afternoons(1, seedWith(0), 0));
        Due.is("draw 1 of 1", 0, x.afternoons(1, seedWith(1), 0));
    }

    private static void noDrawIfItCannot() {
        Due.says("if it can shoot at that");
        TinSoldiers[] cannot = {
            Due.army("...../...../.....;09", SOLDIER, 0, 0, SOLDIER, 1, 1),
            Due.army(OPEN, SOLDIER, 0, 0, SOLDIER, 1, 7),
            Due.army(OPEN, SOLDIER, 0, 0, SOLDIER, 0, 1),
            Due.army(".#.../...../.....;99", SOLDIER, 0, 0, SOLDIER, 1, 2),
        };
        for (TinSoldiers x : cannot) {
            int peas = x.count(1) + x.count(2);
            int seed = seedWith(0);
            Due.is("two draws alone", next(next(seed)), x.afternoons(1, seed, 2));
            Due.is("nobody falls", 0, x.afternoons(1, seed, 0));
            Due.is("no pea is taken", peas, x.afternoons(1, seed, 1));
        }
        TinSoldiers x = Due.army(OPEN, SOLDIER, 0, 0, SOLDIER, 1, 1);
        x.shoot(0, 1, true);
        Due.is("at one that fell: two draws alone", next(next(seedWith(0))), x.afternoons(1, seedWith(0), 2));
        Due.is("no pea is taken", 17, x.afternoons(1, seedWith(0), 1));
    }

    private static void peasRunOut() {
        Due.says("1 PEAS of both SIDES then");
        TinSoldiers x = Due.army("...../...../.....;10", SOLDIER, 0, 0, SPY, 1, 4);
        for (int seed = 0; seed < 30; seed++) {
            int left = x.afternoons(60, seed, 1);
            Due.holds("0 or 1 are left: " + left, left == 0 || left == 1);
            Due.holds("at most one by one pea", x.afternoons(60, seed, 0) <= 1);
        }
        x = Due.army("...../...../.....;00", SOLDIER, 0, 0, SOLDIER, 1, 1);
        Due.is("none to take", 0, x.afternoons(60, 5, 1));
        Due.is("nobody falls", 0, x.afternoons(60, 5, 0));
    }

    private static void fellOrWentOver() {
        Due.says("how many fell or went over");
        int hit = seedWith(0);
        Due.is("a soldier falls", 1, Due.army(OPEN, SOLDIER, 0, 0, SOLDIER, 1, 1).afternoons(1, hit, 0));
        Due.is("a spy goes over", 1, Due.army(OPEN, SOLDIER, 0, 0, SPY, 1, 1).afternoons(1, hit, 0));
        TinSoldiers x = Due.army(OPEN, SOLDIER, 0, 0, OFFICER, 1, 1);
        Due.is("an officer stands", 0, x.afternoons(1, hit, 0));
        x.shoot(0, 1, true);
        Due.is("hit once already it falls", 1, x.afternoons(1, hit, 0));
        x.dinner();
        Due.is("behind dinner it stands", 0, x.afternoons(1, hit, 0));
    }

    private static void asTheyWouldBe() {
        Due.says("AFTERNOONS by a SEED, as they would be");
        TinSoldiers x = Due.army(OPEN, GUNNER, 0, 0, BENT, 1, 1, SPY, 1, 2, SPY, 0, 5, OFFICER, 1, 6, SOLDIER, 0, 12);
        Due.sign(x, "odnt");
        long before = x.digest();
        int fell = x.afternoons(60, 77, 0);
        Due.holds("somebody falls", fell > 0);
        for (int what = 0; what <= 2; what++) {
            x.afternoons(60, 77, what);
        }
        Due.is("nothing changes", before, x.digest());
        Due.is("and again they are so", fell, x.afternoons(60, 77, 0));
    }
}
