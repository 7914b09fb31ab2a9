import java.math.BigInteger;
import java.util.Arrays;

/** Each sentence about images, counts and the digest that names an edge: promises 22 to 25, and their terms. */
public final class EdgesOfAllTest {
    private static final int NONE = -1, UNKNOWN = -101, OUTSIDE = -102, STATE = -103, FULL = -104;
    private static final int SOLDIER = 0, OFFICER = 1, SPY = 2, GUNNER = 3, BENT = 4;
    private static final String OPEN = "...../...../.....;99";

    public static void main(String[] args) {
        imageWithoutCarpet();
        shotsOfImage();
        theLatestImage();
        noneWasKept();
        anotherCarpetSince();
        refusedCarpetSince();
        againAndAgain();
        howManySoldiers();
        cellsAndSides();
        hitsAndWhoStands();
        peasAndShots();
        whoseTheLastWas();
        treatyAndBreach();
        countsKept();
        notKept();
        imageOfNothing();
        whatOfCount();
        countsAtTheLeast();
        countsAtTheMost();
        digestOfNew();
        digestInOrder();
        digestWithoutCarpet();
        digestWraps();
        digestAsks();
        fiveHundredAndTwelveCalls();
        Due.end();
    }

    // ---- image, restore

    private static void imageWithoutCarpet() {
        Due.says("An IMAGE is kept (one; the latest): SHOTS. STATE: no CARPET.");
        TinSoldiers x = new TinSoldiers();
        Due.refused("image()", x, x.digest(), STATE, x.image());
        Due.is("restore()", STATE, x.restore());
        Due.write(x, OPEN);
        x.carpet();
        Due.is("the refused one was not kept", STATE, x.restore());
        Due.is("image() with a carpet", 0, x.image());
    }

    private static void shotsOfImage() {
        Due.says("An IMAGE is kept (one; the latest): SHOTS.");
        TinSoldiers x = Due.army(OPEN, OFFICER, 0, 0, OFFICER, 1, 1);
        for (int shots = 0; shots <= 18; shots++) {
            Due.is("image() behind " + shots, shots, x.image());
            Due.is("restore() behind " + shots, shots, x.restore());
            x.shoot(shots % 2, 1 - shots % 2, false);
        }
        Due.is("no pea is left", 18, x.image());
    }

    private static void theLatestImage() {
        Due.says("(one; the latest)");
        TinSoldiers x = Due.army(OPEN, SOLDIER, 0, 0, SOLDIER, 1, 1);
        x.image();
        x.move(0, 5);
        x.image();
        x.move(0, 6);
        x.restore();
        Due.is("the latest", 5, x.about(0, 2));
        x.restore();
        Due.is("there is no earlier one", 5, x.about(0, 2));
    }

    private static void noneWasKept() {
        Due.says("It goes on from the IMAGE: SHOTS. STATE: none was kept, or there is another CARPET since.");
        TinSoldiers x = Due.army(OPEN, SOLDIER, 0, 0, SOLDIER, 1, 1);
        x.shoot(0, 1, true);
        Due.refused("restore()", x, x.digest(), STATE, x.restore());
        Due.is("restore() of a new one", STATE, new TinSoldiers().restore());
    }

    private static void anotherCarpetSince() {
        Due.says("or there is another CARPET since");
        TinSoldiers x = Due.army(OPEN, SOLDIER, 0, 0);
        x.image();
        Due.write(x, OPEN);
        x.carpet();
        Due.refused("restore(), the same text", x, x.digest(), STATE, x.restore());
        Due.is("nobody is there", NONE, x.cell(0, 1));
        x.soldier(SPY, 1, 14);
        Due.is("image() of this", 0, x.image());
        Due.is("restore() of this", 0, x.restore());
        Due.is("who is there", 0, x.cell(14, 1));
        Due.write(x, "...../...../....#;11");
        x.carpet();
        Due.refused("restore(), another text", x, x.digest(), STATE, x.restore());
    }

    private static void refusedCarpetSince() {
        Due.says("they change nothing.");
        TinSoldiers x = Due.army(OPEN, SOLDIER, 0, 0);
        x.image();
        x.move(0, 7);
        Due.write(x, OPEN + "9");
        Due.is("carpet()", STATE, x.carpet());
        Due.is("restore()", 0, x.restore());
        Due.is("where it was", 0, x.about(0, 2));
    }

    private static void againAndAgain() {
        Due.says("It goes on from the IMAGE: SHOTS.");
        TinSoldiers x = Due.army(OPEN, SOLDIER, 0, 0, OFFICER, 1, 1);
        x.shoot(0, 1, true);
        x.image();
        long then = x.digest();
        for (int round = 0; round < 5; round++) {
            Due.is("it falls", 1, x.shoot(0, 1, true));
            x.move(0, 14);
            Due.is("restore()", 1, x.restore());
            Due.is("all is as it was", then, x.digest());
        }
    }

    private static void howManySoldiers() {
        Due.says("An IMAGE keeps how many soldiers there are (those that come since are gone by restore())");
        for (int many = 0; many <= 6; many++) {
            TinSoldiers x = Due.laid(OPEN);
            for (int one = 0; one < many; one++) {
                x.soldier(GUNNER, 0, one);
            }
            x.image();
            for (int one = many; one < 6; one++) {
                x.soldier(BENT, 1, one);
            }
            Due.is("all six", 6, x.count(3));
            x.restore();
            Due.is("soldiers", many, x.count(3));
            Due.is("of side 1", 0, x.count(5));
            for (int one = 0; one < 6; one++) {
                Due.is("about(" + one + ", 0)", one < many ? GUNNER : UNKNOWN, x.about(one, 0));
                Due.is("cell(" + one + ", 1)", one < many ? one : NONE, x.cell(one, 1));
            }
            Due.is("the next one", many < 6 ? many : FULL, x.soldier(SPY, 1, 14));
            Due.is("is what it came as", many < 6 ? SPY : UNKNOWN, x.about(many, 0));
        }
    }

    private static void cellsAndSides() {
        Due.says("their CELLS, SIDES");
        TinSoldiers x = Due.army(OPEN, SOLDIER, 0, 0, SPY, 1, 1);
        x.image();
        x.shoot(0, 1, true);
        x.move(0, 14);
        x.move(1, 13);
        x.restore();
        Due.is("cell of 0", 0, x.about(0, 2));
        Due.is("cell of 1", 1, x.about(1, 2));
        Due.is("side of the spy", 1, x.about(1, 1));
        Due.is("nobody is there", NONE, x.cell(14, 1));
        x.shoot(0, 1, true);
        x.image();
        Due.is("the spy goes on", 0, x.about(1, 1));
    }

    private static void hitsAndWhoStands() {
        Due.says("how often HIT, who STANDS");
        TinSoldiers x = Due.army(OPEN, SOLDIER, 0, 0, OFFICER, 1, 1, SOLDIER, 1, 5);
        x.shoot(0, 1, true);
        x.image();
        x.shoot(0, 1, true);
        x.shoot(0, 2, true);
        x.restore();
        Due.is("hits of the officer", 1, x.about(1, 4));
        Due.is("the officer stands", 1, x.about(1, 3));
        Due.is("the soldier stands", 1, x.about(2, 3));
        Due.is("hits of the soldier", 0, x.about(2, 4));
        x.shoot(0, 2, true);
        x.image();
        x.dinner();
        x.restore();
        Due.is("the soldier fell", 0, x.about(2, 3));
        Due.is("hits of the soldier", 1, x.about(2, 4));
        Due.is("hits of the officer", 1, x.about(1, 4));
    }

    private static void peasAndShots() {
        Due.says("PEAS, SHOTS, whose the last one was");
        TinSoldiers x = Due.army("...../...../.....;54", SOLDIER, 0, 0, SOLDIER, 1, 1);
        x.shoot(0, 1, false);
        x.image();
        x.shoot(0, 1, false);
        x.shoot(1, 0, false);
        Due.is("restore()", 1, x.restore());
        Due.is("peas of side 0", 4, x.count(1));
        Due.is("peas of side 1", 4, x.count(2));
        Due.is("shots", 1, x.count(6));
    }

    private static void whoseTheLastWas() {
        Due.says("whose the last one was");
        for (int side = 0; side <= 1; side++) {
            for (int then = 0; then <= 1; then++) {
                TinSoldiers x = Due.army(OPEN, SOLDIER, 0, 0, SOLDIER, 1, 1);
                x.shoot(side, 1 - side, false);
                x.image();
                x.shoot(1 - side, side, false);
                x.restore();
                Due.sign(x, "t");
                x.shoot(then, 1 - then, false);
                Due.is("side " + then + " behind " + side, side == then ? 2 : NONE, x.count(8));
            }
        }
        TinSoldiers x = Due.army(OPEN, SOLDIER, 0, 0, SOLDIER, 1, 1);
        Due.sign(x, "t");
        x.image();
        x.shoot(0, 1, false);
        x.restore();
        x.shoot(0, 1, false);
        Due.is("nobody's", NONE, x.count(8));
    }

    private static void treatyAndBreach() {
        Due.says("the TREATY, the BREACH, COUNTS");
        TinSoldiers x = Due.army(OPEN, GUNNER, 0, 0, SOLDIER, 1, 1);
        x.image();
        Due.sign(x, "gn");
        x.shoot(0, 1, false);
        x.restore();
        Due.is("no treaty", 0, x.count(7));
        Due.is("no breach", NONE, x.count(8));
        x.shoot(0, 1, false);
        Due.is("nothing forbids it", NONE, x.count(8));
        Due.sign(x, "n");
        x.shoot(1, 0, false);
        Due.is("the breach", 2, x.count(8));
        x.image();
        Due.sign(x, "god");
        Due.is("none", NONE, x.count(8));
        x.restore();
        Due.is("the letters", 1, x.count(7));
        Due.is("the breach again", 2, x.count(8));
        Due.sign(x, "o");
        x.image();
        Due.sign(x, "g");
        x.restore();
        x.shoot(0, 1, false);
        Due.is("what it forbids is kept, too", NONE, x.count(8));
    }

    private static void countsKept() {
        Due.says("the BREACH, COUNTS.");
        TinSoldiers x = Due.army(OPEN, SPY, 0, 0, SPY, 0, 1, SPY, 0, 2);
        x.tally(1);
        x.tally(2);
        x.image();
        x.forget();
        for (int i = 0; i < 6; i++) {
            x.tally(0);
        }
        x.restore();
        Due.is("counts", 2, x.count(9));
        Due.is("fits()", 6, x.fits());
        Due.is("tally(3)", 3, x.tally(3));
        Due.is("fits()", 6, x.fits());
        x.restore();
        Due.is("counts", 2, x.count(9));
        x.forget();
        x.image();
        x.tally(0);
        x.restore();
        Due.is("none", 0, x.count(9));
    }

    private static void notKept() {
        Due.says("An IMAGE keeps how many soldiers there are");
        TinSoldiers x = Due.army(OPEN, SOLDIER, 0, 0);
        Due.write(x, "ab");
        x.watch(0);
        x.best(0, 1, 0);
        x.image();
        x.letter('c');
        x.watch(0);
        x.best(0, 1, 0);
        long before = x.digest();
        x.restore();
        Due.is("letters of the page", 3, x.count(10));
        Due.is("how often watch() was done", 2, x.count(12));
        Due.is("how often best() was done", 2, x.count(13));
        Due.is("how often a carpet was read", 1, x.count(11));
        Due.is("all the rest is the same", before, x.digest());
    }

    private static void imageOfNothing() {
        Due.says("An IMAGE keeps how many soldiers there are");
        TinSoldiers x = Due.laid("#####/#####/#####;00");
        long before = x.digest();
        Due.is("image()", 0, x.image());
        Due.is("restore()", 0, x.restore());
        Due.is("all is as it was", before, x.digest());
    }

    // ---- count

    private static void whatOfCount() {
        Due.says("11 how often a CARPET was read, 12 how often watch() was done, 13 best(). OUTSIDE.");
        for (TinSoldiers x : new TinSoldiers[] {new TinSoldiers(), Due.laid(OPEN)}) {
            Due.refused("count(-1)", x, x.digest(), OUTSIDE, x.count(-1));
            Due.refused("count(14)", x, x.digest(), OUTSIDE, x.count(14));
            for (int far : Due.FAR) {
                Due.is("count(" + far + ")", OUTSIDE, x.count(far));
            }
            for (int what = 0; what <= 13; what++) {
                Due.holds("count(" + what + ") is told", x.count(what) >= NONE);
            }
        }
    }

    private static void counted(TinSoldiers x, int... want) {
        for (int what = 0; what <= 13; what++) {
            Due.is("count(" + what + ")", want[what], x.count(what));
        }
    }

    private static void countsAtTheLeast() {
        Due.says("How many: 0 open CELLS, 1 and 2 PEAS of SIDE 0, 1, 3 soldiers, 4 and 5 of SIDE 0, 1 that STAND, 6 SHOTS, "
            + "7 letters of the TREATY, 8 the BREACH (NONE), 9 COUNTS, 10 letters of THE PAGE");
        counted(new TinSoldiers(), 0, 0, 0, 0, 0, 0, 0, 0, NONE, 0, 0, 0, 0, 0);
        counted(Due.laid("#####/#####/#####;00"), 0, 0, 0, 0, 0, 0, 0, 0, NONE, 0, 0, 1, 0, 0);
    }

    private static void countsAtTheMost() {
        Due.says("3 soldiers, 4 and 5 of SIDE 0, 1 that STAND, 6 SHOTS");
        TinSoldiers x = Due.laid(OPEN);
        counted(x, 15, 9, 9, 0, 0, 0, 0, 0, NONE, 0, 0, 1, 0, 0);
        for (int one = 0; one < 6; one++) {
            x.soldier(SOLDIER, one < 5 ? 0 : 1, one);
        }
        counted(x, 15, 9, 9, 6, 5, 1, 0, 0, NONE, 0, 0, 1, 0, 0);
        x.move(5, 7);
        Due.sign(x, "tgno");
        x.shoot(5, 1, true);
        x.shoot(5, 2, true);
        for (int i = 0; i < 7; i++) {
            x.shoot(5, 3, false);
        }
        for (int i = 0; i < 9; i++) {
            x.shoot(3, 5, false);
        }
        for (int i = 0; i < 22; i++) {
            x.tally(6);
            x.letter('.');
            x.watch(0);
            x.best(0, 1, 0);
        }
        counted(x, 15, 0, 0, 6, 3, 1, 18, 4, 1, 6, 22, 1, 20, 20);
    }

    // ---- digest

    private static long digest(long... numbers) {
        BigInteger h = BigInteger.valueOf(839);
        for (long number : numbers) {
            h = h.multiply(BigInteger.valueOf(31)).add(BigInteger.valueOf(number));
        }
        return h.longValue();
    }

    private static void digestOfNew() {
        Due.says("h is 839, then for each of these numbers, in order, 31 times h, and it (as longs, wrapping)");
        long want = digest(0, 0, 0, 0, 0, 0, 0, 0, NONE, 0, 0, 0, 0, 0);
        Due.is("digest()", want, new TinSoldiers().digest());
    }

    private static void digestInOrder() {
        Due.says("with a CARPET of each CELL what cell() tells for 0 to 2, FITS; of each soldier what about() tells for 0 to 5, "
            + "then for each soldier TENTHS by which it HITS that; letters of THE PAGE; what count() tells for 0 to 13.");
        TinSoldiers x = Due.army("##.##/##.##/#####;12", SPY, 0, 2, GUNNER, 1, 7);
        x.tally(1);
        Due.write(x, "~ ");
        long want = digest(
            0, NONE, 0, 0, NONE, 0, 1, 0, 132, 0, NONE, 0, 0, NONE, 0,
            0, NONE, 0, 0, NONE, 0, 1, 1, 132, 0, NONE, 0, 0, NONE, 0,
            0, NONE, 0, 0, NONE, 0, 0, NONE, 0, 0, NONE, 0, 0, NONE, 0,
            1,
            SPY, 0, 2, 1, 0, 1, 0, 6,
            GUNNER, 1, 7, 1, 0, 1, 7, 0,
            126, 32,
            2, 1, 2, 2, 1, 1, 0, 0, NONE, 1, 2, 1, 0, 0);
        Due.is("digest()", want, x.digest());
    }

    private static void digestWithoutCarpet() {
        Due.says("with a CARPET of each CELL what cell() tells for 0 to 2, FITS");
        TinSoldiers x = new TinSoldiers();
        x.tally(3);
        Due.is("counts alone", digest(0, 0, 0, 0, 0, 0, 0, 0, NONE, 1, 0, 0, 0, 0), x.digest());
        Due.write(x, "a");
        Due.is("and a letter", digest(97, 0, 0, 0, 0, 0, 0, 0, 0, NONE, 1, 1, 0, 0, 0), x.digest());
    }

    /** Behind 13 numbers and more 839 times 31 each is above a long: it goes round, below 0 as well. */
    private static void digestWraps() {
        Due.says("(as longs, wrapping)");
        BigInteger plain = BigInteger.valueOf(839).multiply(BigInteger.valueOf(31).pow(14));
        Due.holds("a new one is above a long already", plain.bitLength() > 63);
        TinSoldiers x = new TinSoldiers();
        boolean below = x.digest() < 0;
        boolean above = x.digest() > 0;
        long[] numbers = new long[0];
        for (int many = 1; many <= 22; many++) {
            x.letter(32 + many);
            numbers = Arrays.copyOf(numbers, many);
            numbers[many - 1] = 32 + many;
            long[] all = Arrays.copyOf(numbers, many + 14);
            all[many + 8] = NONE;
            all[many + 10] = many;
            Due.is("digest() with " + many + " letters", digest(all), x.digest());
            below |= x.digest() < 0;
            above |= x.digest() > 0;
        }
        Due.holds("some are below 0, some above", below && above);
    }

    private static void digestAsks() {
        Due.says("what count() tells for 0 to 13.");
        TinSoldiers x = Due.army(OPEN, SOLDIER, 0, 0, SOLDIER, 1, 1);
        long before = x.digest();
        Due.is("it changes nothing", before, x.digest());
        Due.is("no watch was done by it", 0, x.count(12));
        x.watch(0);
        Due.is("one more of count(12)", before + 31, x.digest());
        x.best(0, 1, 0);
        Due.is("one more of count(13)", before + 32, x.digest());
    }
    private static void fiveHundredAndTwelveCalls() {
        Due.says("An object is used for at most 512 calls after it has been made");
        TinSoldiers x = new TinSoldiers();
        for (int call = 1; call <= 511; call++) {
            int at = (call - 1) % 23;
            Due.is("call " + call, at < 22 ? at + 1 : 22, at < 22 ? x.letter(46) : x.blank());
        }
        Due.is("call 512", 5, x.fault(0));
        // 20 letters, carpet() and soldier(), 23 times: 506 calls.
        x = new TinSoldiers();
        for (int round = 1; round <= 23; round++) {
            Due.write(x, OPEN);
            Due.is("carpet() number " + round, 15, x.carpet());
            Due.is("soldier(0, 0, 0) number " + round, 0, x.soldier(SOLDIER, 0, 0));
        }
        for (int call = 23 * 22 + 1; call <= 511; call++) {
            x.move(0, call % 2 == 0 ? 0 : 14);
        }
        Due.is("call 512", 23, x.count(11));
    }
}
