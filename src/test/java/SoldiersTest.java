/** Promises 8 to 14: soldier, about, as, move, tenths, shoot, dinner. */
public final class SoldiersTest {
    private static final String OPEN = "...../...../.....;99";
    private static final int SOLDIER = 0, OFFICER = 1, SPY = 2, GUNNER = 3, BENT = 4;

    public static void main(String[] args) {
        enlisting();
        casts();
        moves();
        chances();
        whoCanShoot();
        hitsByKind();
        peaFliesOn();
        breaches();
        dinners();
        Due.end();
    }

    private static void enlisting() {
        TinSoldiers x = Due.laid("....#/...../.....;99");
        Due.is("soldier(-1, 0, 0)", TinSoldiers.OUTSIDE, x.soldier(-1, 0, 0));
        Due.is("soldier(5, 0, 99)", TinSoldiers.OUTSIDE, x.soldier(5, 0, 99));
        Due.is("soldier(0, 2, 99)", TinSoldiers.OUTSIDE, x.soldier(0, 2, 99));
        Due.is("soldier(0, -1, 0)", TinSoldiers.OUTSIDE, x.soldier(0, -1, 0));
        Due.is("soldier(0, 0, 15)", TinSoldiers.UNKNOWN, x.soldier(0, 0, 15));
        Due.is("soldier(0, 0, -1)", TinSoldiers.UNKNOWN, x.soldier(0, 0, -1));
        Due.is("soldier(0, 0, 4)", TinSoldiers.STATE, x.soldier(0, 0, 4));
        for (int number = 0; number < 6; number++) {
            Due.is("soldier " + number, number, x.soldier(number % 5, number % 2, number + 5));
        }
        Due.is("a seventh where one is", TinSoldiers.STATE, x.soldier(0, 0, 5));
        Due.refused("a seventh", x, x.digest(), TinSoldiers.FULL, x.soldier(0, 0, 0));
        int[] wantOf3 = {GUNNER, 1, 8, 1, 0, 2};
        for (int what = 0; what <= 5; what++) {
            Due.is("about(3, " + what + ")", wantOf3[what], x.about(3, what));
        }
        Due.is("about(6, 0)", TinSoldiers.UNKNOWN, x.about(6, 0));
        Due.is("about(-1, 9)", TinSoldiers.UNKNOWN, x.about(-1, 9));
        Due.is("about(0, 6)", TinSoldiers.OUTSIDE, x.about(0, 6));
        Due.is("about(0, -1)", TinSoldiers.OUTSIDE, x.about(0, -1));
    }

    private static void casts() {
        TinSoldiers x = Due.laid(OPEN);
        for (int kind = 0; kind < 5; kind++) {
            x.soldier(kind, 0, kind);
        }
        for (int one = 0; one < 5; one++) {
            for (int kind = 0; kind < 5; kind++) {
                boolean is = one == kind || kind == SOLDIER || (one == BENT && kind == OFFICER);
                Due.is("as(" + one + ", " + kind + ")", is ? one : TinSoldiers.NONE, x.as(one, kind));
            }
        }
        Due.is("as(5, 9)", TinSoldiers.UNKNOWN, x.as(5, 9));
        Due.is("as(-1, 0)", TinSoldiers.UNKNOWN, x.as(-1, 0));
        Due.is("as(0, 5)", TinSoldiers.OUTSIDE, x.as(0, 5));
        Due.is("as(0, -1)", TinSoldiers.OUTSIDE, x.as(0, -1));
    }

    private static void moves() {
        TinSoldiers x = Due.laid("....#/...../.....;99");
        x.soldier(SOLDIER, 0, 0);
        x.soldier(SOLDIER, 1, 1);
        Due.is("move(2, 3)", TinSoldiers.UNKNOWN, x.move(2, 3));
        Due.is("move(-1, 3)", TinSoldiers.UNKNOWN, x.move(-1, 3));
        Due.is("move(0, 15)", TinSoldiers.UNKNOWN, x.move(0, 15));
        Due.is("move(0, -1)", TinSoldiers.UNKNOWN, x.move(0, -1));
        Due.is("move(0, 4), cover", TinSoldiers.STATE, x.move(0, 4));
        Due.is("move(0, 1), somebody", TinSoldiers.STATE, x.move(0, 1));
        Due.refused("move(0, 0), itself", x, x.digest(), TinSoldiers.STATE, x.move(0, 0));
        Due.is("move(0, 7)", 0, x.move(0, 7));
        Due.is("where it was", TinSoldiers.NONE, x.cell(0, 1));
        Due.is("where it is", 0, x.cell(7, 1));
        Due.is("shoot(1, 0, true)", 1, x.shoot(1, 0, true));
        Due.is("move(1, 7), somebody fallen", TinSoldiers.STATE, x.move(1, 7));
        Due.is("move(0, 14), fallen", 7, x.move(0, 14));
        Due.is("still fallen", 0, x.about(0, 3));
    }

    private static void chance(String carpet, int kind, int from, int to, int want) {
        TinSoldiers x = Due.laid(carpet);
        x.soldier(kind, 0, from);
        x.soldier(SOLDIER, 1, to);
        Due.is(carpet + ": tenths of kind " + kind + " from " + from + " to " + to, want, x.tenths(0, 1));
    }

    private static void chances() {
        int[] byDistance = {8, 6, 4, 2};
        int[] ofGunner = {9, 8, 7, 6};
        for (int distance = 1; distance <= 4; distance++) {
            for (int kind : new int[] {SOLDIER, OFFICER, SPY, BENT}) {
                chance(OPEN, kind, 5, 5 + distance, byDistance[distance - 1]);
                chance("...../...../....#;90", kind, 0, distance, distance < 4 ? byDistance[distance - 1] : 2);
            }
            chance(OPEN, GUNNER, 5, 5 + distance, ofGunner[distance - 1]);
        }
        chance(OPEN, SOLDIER, 0, 10, 6);
        chance(OPEN, SOLDIER, 0, 12, 6);
        chance(OPEN, SOLDIER, 14, 2, 6);
        chance(OPEN, SOLDIER, 4, 12, 6);
        chance(OPEN, SOLDIER, 0, 7, 0);
        chance(OPEN, SOLDIER, 0, 11, 0);
        chance(OPEN, SOLDIER, 4, 5, 0);
        chance("...../....#/.....;90", SOLDIER, 0, 4, 1);
        chance("...../....#/.....;90", GUNNER, 0, 4, 4);
        chance("...../...#./.....;90", SOLDIER, 0, 4, 1);
        chance("...#./...../.....;90", SOLDIER, 5, 9, 1);
        chance("#..../...../.....;90", SOLDIER, 2, 4, 6);
        chance("#..../#..../.....;90", SOLDIER, 3, 2, 8);
        chance("....#/...../.....;90", SOLDIER, 6, 5, 8);
        chance("..#../...../.....;90", SOLDIER, 0, 4, 0);
        chance("...../.#.../.....;90", SOLDIER, 0, 12, 0);
        chance(".#.../...../.....;90", SOLDIER, 0, 2, 0);
        chance("...../...../.....;09", SOLDIER, 0, 1, 0);
    }

    private static void whoCanShoot() {
        TinSoldiers x = Due.laid(OPEN);
        x.soldier(SOLDIER, 0, 0);
        x.soldier(SOLDIER, 1, 1);
        x.soldier(SOLDIER, 1, 3);
        x.soldier(SOLDIER, 0, 5);
        Due.is("at itself", 0, x.tenths(0, 0));
        Due.is("at its own side", 0, x.tenths(0, 3));
        Due.is("past one that stands", 0, x.tenths(0, 2));
        Due.is("about(0, 5)", 1, x.about(0, 5));
        Due.is("about(3, 5)", 1, x.about(3, 5));
        Due.refused("shoot past one", x, x.digest(), TinSoldiers.STATE, x.shoot(0, 2, true));
        Due.refused("shoot at itself", x, x.digest(), TinSoldiers.STATE, x.shoot(0, 0, true));
        Due.is("shoot(0, 1, true)", 1, x.shoot(0, 1, true));
        Due.is("past one that fell", 4, x.tenths(0, 2));
        Due.is("at one that fell", 0, x.tenths(0, 1));
        Due.is("at the first soldier", 1, x.about(2, 5));
        Due.is("by one that fell", 0, x.tenths(1, 0));
        Due.is("about(1, 5), fallen", 0, x.about(1, 5));
        x.move(0, 4);
        x.move(2, 9);
        x.move(3, 14);
        Due.is("past the first soldier", 0, x.tenths(3, 0));
        x.move(0, 8);
        x.move(2, 7);
        x.move(3, 9);
        Due.is("the first soldier stands between", 0, x.tenths(2, 3));
        x.move(0, 0);
        Due.is("nobody stands between", 6, x.tenths(2, 3));
        Due.is("tenths(4, 0)", TinSoldiers.UNKNOWN, x.tenths(4, 0));
        Due.is("tenths(0, 4)", TinSoldiers.UNKNOWN, x.tenths(0, 4));
        Due.is("tenths(-1, 0)", TinSoldiers.UNKNOWN, x.tenths(-1, 0));
        Due.is("shoot(0, 4, true)", TinSoldiers.UNKNOWN, x.shoot(0, 4, true));
        Due.is("shoot(-1, 0, true)", TinSoldiers.UNKNOWN, x.shoot(-1, 0, true));
    }

    private static void hitsByKind() {
        int[] falls = {1, 2, 0, 1, 2};
        for (int kind = 0; kind < 5; kind++) {
            TinSoldiers x = Due.laid("...../...../.....;35");
            x.soldier(SOLDIER, 0, 0);
            x.soldier(kind, 1, 1);
            Due.is("a miss", 0, x.shoot(0, 1, false));
            Due.is("a miss takes a pea", 2, x.count(1));
            Due.is("a miss is a shot", 1, x.count(6));
            Due.is("a miss hits nobody", 0, x.about(1, 4));
            Due.is("first hit, kind " + kind, falls[kind] == 2 ? 0 : 1, x.shoot(0, 1, true));
            Due.is("hits told, kind " + kind, kind == SPY ? 0 : 1, x.about(1, 4));
            Due.is("stands, kind " + kind, falls[kind] == 1 ? 0 : 1, x.about(1, 3));
            Due.is("side, kind " + kind, kind == SPY ? 0 : 1, x.about(1, 1));
            if (falls[kind] == 2) {
                Due.is("second hit, kind " + kind, 1, x.shoot(0, 1, true));
                Due.is("stands, kind " + kind, 0, x.about(1, 3));
                Due.is("hits told, kind " + kind, 2, x.about(1, 4));
                Due.is("no peas left", 0, x.count(1));
            }
            Due.is("peas of the other side", 5, x.count(2));
        }
        spyGoesOverAndBack();
    }

    private static void spyGoesOverAndBack() {
        TinSoldiers x = Due.laid("...../...../.....;19");
        x.soldier(SOLDIER, 0, 0);
        x.soldier(SPY, 1, 1);
        x.soldier(SOLDIER, 1, 2);
        x.shoot(0, 1, true);
        Due.is("no pea of its new side", 0, x.tenths(1, 2));
        Due.is("at the spy from its old side", 8, x.tenths(2, 1));
        Due.is("it goes back", 1, x.shoot(2, 1, true));
        Due.is("its side", 1, x.about(1, 1));
        Due.is("it shoots for its old side", 1, x.shoot(1, 0, true));
        Due.is("peas", 7, x.count(2));
    }

    private static void peaFliesOn() {
        TinSoldiers x = Due.laid("...../...../.....;99");
        x.soldier(SOLDIER, 0, 0);
        x.soldier(BENT, 1, 1);
        x.soldier(SOLDIER, 0, 4);
        Due.is("to its own side, far behind", 1, x.shoot(0, 1, true));
        Due.is("the bent one stands", 1, x.about(1, 3));
        Due.is("the one behind fell", 0, x.about(2, 3));
        Due.is("only the bent one falls now", 1, x.shoot(0, 1, true));
        x.dinner();
        Due.is("a miss flies nowhere", 0, x.shoot(0, 1, false));
        Due.is("the one behind stands", 1, x.about(2, 3));

        x = Due.laid("...../...../...#.;99");
        x.soldier(SOLDIER, 0, 10);
        x.soldier(BENT, 1, 12);
        x.soldier(SOLDIER, 1, 14);
        Due.is("cover is ahead", 0, x.shoot(0, 1, true));
        Due.is("behind cover it stands", 1, x.about(2, 3));

        x = Due.laid("...../...../.....;99");
        x.soldier(SOLDIER, 0, 0);
        x.soldier(BENT, 1, 6);
        x.soldier(BENT, 0, 12);
        Due.is("along a diagonal, and out", 0, x.shoot(0, 1, true));
        Due.is("bent behind bent", 1, x.about(2, 4));
        x.move(2, 7);
        x.shoot(0, 1, true);
        Due.is("beside the way", 1, x.about(2, 4));

        x = Due.laid("...../...../.....;99");
        x.soldier(GUNNER, 1, 9);
        x.soldier(BENT, 0, 8);
        x.soldier(BENT, 1, 7);
        x.soldier(SPY, 1, 6);
        x.soldier(SOLDIER, 0, 5);
        Due.is("to the left, through two, to a spy", 1, x.shoot(0, 1, true));
        Due.is("the spy went over", 0, x.about(3, 1));
        Due.is("it stops the pea", 1, x.about(4, 3));
        Due.is("both bent ones fall", 3, x.shoot(0, 1, true));
        Due.is("the spy went back", 1, x.about(3, 1));

        x = Due.laid("...../...../.....;99");
        x.soldier(SOLDIER, 0, 10);
        x.soldier(BENT, 1, 5);
        x.soldier(SOLDIER, 0, 0);
        Due.is("upwards, into the corner", 1, x.shoot(0, 1, true));
        x.move(0, 0);
        x.move(2, 10);
        x.dinner();
        Due.is("downwards, into the corner", 1, x.shoot(0, 1, true));

        x = Due.laid("...../...../.....;99");
        x.soldier(SOLDIER, 0, 3);
        x.soldier(BENT, 1, 4);
        x.soldier(SOLDIER, 1, 5);
        Due.is("not round the edge", 0, x.shoot(0, 1, true));
        Due.is("in the next row it stands", 1, x.about(2, 3));
    }

    /** One shot from a cell of a kind at another one under a treaty: whether that is its breach. */
    private static void breach(String treaty, int kind, int from, int kindOfOther, int to, boolean want) {
        TinSoldiers x = Due.laid(OPEN);
        x.soldier(kind, 0, from);
        x.soldier(kindOfOther, 1, to);
        Due.sign(x, treaty);
        x.shoot(0, 1, false);
        String told = treaty + ": " + kind + " at " + from + " shoots at " + kindOfOther + " at " + to;
        Due.is(told, want ? 1 : TinSoldiers.NONE, x.count(8));
    }

    private static void breaches() {
        for (int kind = 0; kind < 5; kind++) {
            breach("o", SOLDIER, 0, kind, 2, kind == OFFICER || kind == BENT);
            breach("o", kind, 0, SOLDIER, 2, false);
            breach("g", kind, 0, SOLDIER, 2, kind == GUNNER);
            breach("g", SOLDIER, 0, kind, 2, false);
        }
        breach("d", SOLDIER, 0, SOLDIER, 6, true);
        breach("d", SOLDIER, 4, SOLDIER, 12, true);
        breach("d", SOLDIER, 0, SOLDIER, 4, false);
        breach("d", SOLDIER, 0, SOLDIER, 10, false);
        breach("n", SOLDIER, 0, SOLDIER, 1, true);
        breach("n", SOLDIER, 0, SOLDIER, 6, true);
        breach("n", SOLDIER, 0, SOLDIER, 2, false);
        breach("t", SOLDIER, 0, SOLDIER, 1, false);
        breach("odnt", GUNNER, 0, SOLDIER, 2, false);
        firstBreachStays();
        turnsUnderTreaty();
        peaThatFliesOnIsNoShot();
    }

    private static void firstBreachStays() {
        TinSoldiers x = Due.laid(OPEN);
        x.soldier(SOLDIER, 0, 0);
        x.soldier(SOLDIER, 1, 1);
        x.shoot(0, 1, false);
        Due.sign(x, "n");
        Due.is("ahead of the treaty it was fine", TinSoldiers.NONE, x.count(8));
        x.move(1, 2);
        x.shoot(0, 1, false);
        x.move(1, 1);
        x.shoot(1, 0, false);
        Due.is("the third shot", 3, x.count(8));
        x.shoot(0, 1, false);
        Due.is("the first breach stays", 3, x.count(8));
        Due.sign(x, "n");
        Due.is("read again", TinSoldiers.NONE, x.count(8));
        Due.is("shots go on", 4, x.count(6));
        Due.is("done all the same", 1, x.shoot(1, 0, true));
        Due.is("the fifth shot", 5, x.count(8));
    }

    private static void turnsUnderTreaty() {
        TinSoldiers x = Due.laid(OPEN);
        x.soldier(SOLDIER, 0, 0);
        x.soldier(SPY, 1, 1);
        x.soldier(SOLDIER, 1, 5);
        x.shoot(0, 2, false);
        Due.sign(x, "t");
        x.shoot(0, 2, false);
        Due.is("its own shot was ahead of the treaty", 2, x.count(8));
        Due.sign(x, "t");
        x.shoot(1, 0, false);
        x.shoot(0, 1, true);
        Due.is("in turn", TinSoldiers.NONE, x.count(8));
        x.shoot(1, 2, false);
        Due.is("the spy shoots for its new side", 5, x.count(8));
    }

    private static void peaThatFliesOnIsNoShot() {
        TinSoldiers x = Due.laid(OPEN);
        x.soldier(SOLDIER, 0, 0);
        x.soldier(BENT, 1, 2);
        x.soldier(OFFICER, 1, 3);
        Due.sign(x, "ndtg");
        x.shoot(0, 1, true);
        Due.is("nobody is shot at from the bent one", TinSoldiers.NONE, x.count(8));
        Due.is("one pea", 8, x.count(1));
        Due.is("one shot", 1, x.count(6));
    }

    private static void dinners() {
        TinSoldiers x = Due.laid(OPEN);
        x.soldier(SOLDIER, 0, 0);
        x.soldier(OFFICER, 1, 1);
        x.soldier(SOLDIER, 1, 5);
        x.soldier(SPY, 1, 6);
        x.shoot(0, 1, true);
        x.shoot(0, 2, true);
        x.shoot(0, 3, true);
        Due.is("dinner()", 1, x.dinner());
        Due.is("it stands", 1, x.about(2, 3));
        Due.is("it was not hit", 0, x.about(2, 4));
        Due.is("the officer was not hit", 0, x.about(1, 4));
        Due.is("the spy stays over", 0, x.about(3, 1));
        Due.is("shots stay", 3, x.count(6));
        Due.is("peas stay", 6, x.count(1));
        Due.is("the officer needs two", 0, x.shoot(0, 1, true));
        Due.is("dinner() again", 0, x.dinner());
    }
}
