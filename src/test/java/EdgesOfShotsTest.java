/** Each sentence about shots, breaches and dinner that names an edge: promises 13 and 14, and their terms. */
public final class EdgesOfShotsTest {
    private static final int NONE = -1, UNKNOWN = -101, STATE = -103;
    private static final int SOLDIER = 0, OFFICER = 1, SPY = 2, GUNNER = 3, BENT = 4;
    private static final String OPEN = "...../...../.....;99";

    public static void main(String[] args) {
        numbersOfShots();
        whoCannotShoot();
        aPeaOfItsSide();
        theLastPea();
        fallsByOneHit();
        officersFallByTwo();
        sinceTheyStoodUp();
        spiesNeverFall();
        fliesOnWhetherItFalls();
        fliesOnTheSameWay();
        fliesNotRoundTheEdge();
        firstThatStandsBehind();
        ofWhicheverSide();
        noCoverAhead();
        andSoOnFromThere();
        aMissFliesNowhere();
        howManyByOneShot();
        dinnerOfNobody();
        dinnerOfAll();
        dinnerLeavesTheRest();
        noTreatyAtFirst();
        noOfficer();
        noDiagonal();
        noDistanceOne();
        noGunner();
        notBehindItsOwn();
        notBehindItsOwnAheadOfTheTreaty();
        sinceItWasRead();
        theFirstOne();
        doneAllTheSame();
        refusedShotsAreNone();
        Due.end();
    }

    private static void standing(String told, TinSoldiers x, int... want) {
        for (int one = 0; one < want.length; one++) {
            Due.is(told + ": whether " + one + " stands", want[one], x.about(one, 3));
        }
    }

    // ---- who shoots, and what it takes

    private static void numbersOfShots() {
        Due.says("A SHOT, which HITS or not: how many fell or went over by it. UNKNOWN: a, b; STATE: a cannot shoot at b.");
        TinSoldiers x = Due.army(OPEN, SOLDIER, 0, 0, SOLDIER, 1, 1);
        for (boolean hits : new boolean[] {true, false}) {
            Due.is("shoot(-1, 0)", UNKNOWN, x.shoot(-1, 0, hits));
            Due.is("shoot(0, -1)", UNKNOWN, x.shoot(0, -1, hits));
            Due.is("shoot(2, 0)", UNKNOWN, x.shoot(2, 0, hits));
            Due.is("shoot(0, 2)", UNKNOWN, x.shoot(0, 2, hits));
            Due.is("shoot(2, 2)", UNKNOWN, x.shoot(2, 2, hits));
            for (int far : Due.FAR) {
                Due.is("shoot(" + far + ", 0)", UNKNOWN, x.shoot(far, 0, hits));
                Due.is("shoot(0, " + far + ")", UNKNOWN, x.shoot(0, far, hits));
            }
            Due.is("shoot(0, 0) without a carpet", UNKNOWN, new TinSoldiers().shoot(0, 0, hits));
        }
        Due.is("no shot was done", 0, x.count(6));
        Due.is("shoot(1, 0, true)", 1, x.shoot(1, 0, true));
    }

    private static void cannot(String why, TinSoldiers x, int a, int b) {
        Due.refused(why + ", a hit", x, x.digest(), STATE, x.shoot(a, b, true));
        Due.refused(why + ", a miss", x, x.digest(), STATE, x.shoot(a, b, false));
    }

    private static void whoCannotShoot() {
        Due.says("STATE: a cannot shoot at b.");
        TinSoldiers x = Due.army(OPEN, SOLDIER, 0, 0, SOLDIER, 1, 2, SOLDIER, 0, 1, SOLDIER, 1, 7);
        cannot("at itself", x, 0, 0);
        cannot("at its own side", x, 0, 2);
        cannot("past its own side", x, 0, 1);
        cannot("without a line", x, 0, 3);
        x.shoot(2, 1, true);
        cannot("at one that fell", x, 2, 1);
        cannot("by one that fell", x, 1, 2);
        cannot("past cover", Due.army("..#../...../.....;99", SOLDIER, 0, 0, SOLDIER, 1, 4), 0, 1);
        cannot("without a pea", Due.army("...../...../.....;09", SOLDIER, 0, 0, SOLDIER, 1, 1), 0, 1);
    }

    private static void aPeaOfItsSide() {
        Due.says("A SHOT takes a PEA of its SIDE.");
        TinSoldiers x = Due.army("...../...../.....;53", SOLDIER, 0, 0, OFFICER, 1, 1);
        x.shoot(0, 1, true);
        Due.is("side 0 behind a hit", 4, x.count(1));
        x.shoot(0, 1, false);
        Due.is("side 0 behind a miss", 3, x.count(1));
        Due.is("side 1", 3, x.count(2));
        x.shoot(1, 0, false);
        Due.is("side 1 behind a miss", 2, x.count(2));
        Due.is("side 0", 3, x.count(1));
        x = Due.army("...../...../.....;53", SOLDIER, 0, 0, SPY, 1, 1, SOLDIER, 1, 2);
        x.shoot(0, 1, true);
        x.shoot(1, 2, false);
        Due.is("a spy takes one of its new side", 3, x.count(1));
        Due.is("none of its old one", 3, x.count(2));
    }

    private static void theLastPea() {
        Due.says("if its SIDE has a PEA");
        TinSoldiers x = Due.army("...../...../.....;91", OFFICER, 0, 0, SOLDIER, 1, 1);
        for (int shot = 1; shot <= 9; shot++) {
            Due.is("shot " + shot, 0, x.shoot(0, 1, false));
            Due.is("left", 9 - shot, x.count(1));
        }
        cannot("the tenth of nine", x, 0, 1);
        Due.is("the first of one", 0, x.shoot(1, 0, false));
        cannot("the second of one", x, 1, 0);
        Due.is("shots", 10, x.count(6));
        x.dinner();
        cannot("dinner brings none", x, 0, 1);
    }

    // ---- who falls

    private static void fallsByOneHit() {
        Due.says("One that is HIT falls");
        for (int kind : new int[] {SOLDIER, GUNNER}) {
            TinSoldiers x = Due.army(OPEN, SOLDIER, 0, 0, kind, 1, 1);
            Due.is("a miss", 0, x.shoot(0, 1, false));
            standing("missed", x, 1, 1);
            Due.is("a hit", 1, x.shoot(0, 1, true));
            standing("hit", x, 1, 0);
            Due.is("of its side", 1, x.about(1, 1));
        }
    }

    private static void officersFallByTwo() {
        Due.says("an OFFICER (a BENT one) only as it is HIT for the second time");
        for (int kind : new int[] {OFFICER, BENT}) {
            TinSoldiers x = Due.army(OPEN, SOLDIER, 0, 0, kind, 1, 1);
            Due.is("the first hit", 0, x.shoot(0, 1, true));
            standing("hit once", x, 1, 1);
            Due.is("a miss", 0, x.shoot(0, 1, false));
            standing("missed behind it", x, 1, 1);
            Due.is("the second hit", 1, x.shoot(0, 1, true));
            standing("hit twice", x, 1, 0);
        }
    }

    private static void sinceTheyStoodUp() {
        Due.says("for the second time (since it STOOD up)");
        for (int kind : new int[] {OFFICER, BENT}) {
            TinSoldiers x = Due.army(OPEN, SOLDIER, 0, 0, kind, 1, 1);
            for (int afternoon = 0; afternoon < 2; afternoon++) {
                Due.is("the first hit", 0, x.shoot(0, 1, true));
                Due.is("the second hit", 1, x.shoot(0, 1, true));
                Due.is("dinner()", 1, x.dinner());
            }
        }
    }

    private static void spiesNeverFall() {
        Due.says("a SPY never falls, but is of the other SIDE from then on");
        TinSoldiers x = Due.army(OPEN, SOLDIER, 0, 0, SPY, 1, 1, SOLDIER, 1, 2);
        for (int round = 0; round < 4; round++) {
            Due.is("it goes over", 1, x.shoot(0, 1, true));
            Due.is("its side", 0, x.about(1, 1));
            Due.is("it goes back", 1, x.shoot(2, 1, true));
            Due.is("its side", 1, x.about(1, 1));
            standing("round " + round, x, 1, 1, 1);
        }
        Due.is("a miss", 0, x.shoot(0, 1, false));
        Due.is("it stays", 1, x.about(1, 1));
        x.shoot(0, 1, true);
        Due.is("nobody stands up", 0, x.dinner());
        Due.is("from then on, behind dinner, too", 0, x.about(1, 1));
    }

    // ---- where the pea flies on

    private static void fliesOnWhetherItFalls() {
        Due.says("From a BENT one, whether it falls or not, the pea flies on the same way");
        TinSoldiers x = Due.army(OPEN, SOLDIER, 0, 0, BENT, 1, 1, OFFICER, 1, 2);
        Due.is("it stands, the pea flies on", 0, x.shoot(0, 1, true));
        Due.is("the one behind was hit", 1, x.about(2, 4));
        Due.is("both fall", 2, x.shoot(0, 1, true));
        standing("hit twice", x, 1, 0, 0);
        for (int kind : new int[] {SOLDIER, OFFICER, SPY, GUNNER}) {
            x = Due.army(OPEN, SOLDIER, 0, 0, kind, 1, 1, SOLDIER, 1, 2);
            x.shoot(0, 1, true);
            Due.is("from kind " + kind + " it does not", 0, x.about(2, 4));
        }
    }

    /** From each cell over each one on a line: whoever is on any cell is hit if it is on the same way. */
    private static void fliesOnTheSameWay() {
        Due.says("the pea flies on the same way: the first soldier that STANDS behind it");
        for (int from = 0; from < 15; from++) {
            for (int over = 0; over < 15; over++) {
                for (int there = 0; there < 15; there++) {
                    if (Lines.distance(from, over) == 0 || there == from || there == over || Lines.isBetween(there, from, over)) {
                        continue;
                    }
                    TinSoldiers x = Due.army(OPEN, SOLDIER, 0, from, BENT, 1, over, SOLDIER, 1, there);
                    boolean behind = Lines.isBetween(over, from, there);
                    String told = "from " + from + " over " + over + ", one on " + there;
                    Due.is(told, behind ? 1 : 0, x.shoot(0, 1, true));
                    standing(told, x, 1, 1, behind ? 0 : 1);
                }
            }
        }
    }

    /** As numbers the next cell would be one of the carpet, but it is round the edge. */
    private static void fliesNotRoundTheEdge() {
        Due.says("the pea flies on the same way");
        int[][] edges = {{3, 4, 5}, {8, 9, 10}, {6, 5, 4}, {11, 10, 9}, {1, 5, 9}, {6, 10, 14}, {8, 4, 0}, {13, 9, 5}};
        for (int[] edge : edges) {
            TinSoldiers x = Due.army(OPEN, SOLDIER, 0, edge[0], BENT, 1, edge[1], SOLDIER, 0, edge[2]);
            Due.is("nobody falls", 0, x.shoot(0, 1, true));
            standing("over " + edge[1], x, 1, 1, 1);
        }
        int[][] ends = {{5, 0}, {6, 0}, {6, 1}, {8, 4}, {9, 4}, {5, 10}, {8, 14}, {9, 14}, {13, 14}, {1, 0}};
        for (int[] end : ends) {
            Due.is("nothing is behind " + end[1], -1, Lines.behind(end[0], end[1]));
            Due.is("off the carpet", 0, Due.army(OPEN, SOLDIER, 0, end[0], BENT, 1, end[1]).shoot(0, 1, true));
        }
    }

    private static void firstThatStandsBehind() {
        Due.says("the first soldier that STANDS behind it");
        TinSoldiers x = Due.army(OPEN, SOLDIER, 0, 0, BENT, 1, 1, SOLDIER, 1, 3, SOLDIER, 1, 4);
        Due.is("over an empty cell, the first of two", 1, x.shoot(0, 1, true));
        standing("first", x, 1, 1, 0, 1);
        Due.is("over a fallen one, and the bent one falls", 2, x.shoot(0, 1, true));
        standing("then", x, 1, 0, 0, 0);
        Due.is("one that fell is not hit again", 1, x.about(2, 4));
        x = Due.army(OPEN, SOLDIER, 0, 5, BENT, 1, 8, SOLDIER, 0, 9);
        Due.is("as far as it goes", 1, x.shoot(0, 1, true));
        standing("far", x, 1, 1, 0);
    }

    private static void ofWhicheverSide() {
        Due.says("of whichever SIDE, is HIT, too");
        for (int side = 0; side <= 1; side++) {
            TinSoldiers x = Due.army(OPEN, SOLDIER, 0, 0, BENT, 1, 1, SOLDIER, side, 2);
            Due.is("one of side " + side, 1, x.shoot(0, 1, true));
            standing("side " + side, x, 1, 1, 0);
            x = Due.army(OPEN, SOLDIER, 0, 0, BENT, 1, 1, SPY, side, 2);
            Due.is("a spy of side " + side, 1, x.shoot(0, 1, true));
            Due.is("it went over", 1 - side, x.about(2, 1));
        }
    }

    private static void noCoverAhead() {
        Due.says("if no COVER is ahead of that");
        TinSoldiers x = Due.army("..#../...../.....;99", SOLDIER, 0, 0, BENT, 1, 1, SOLDIER, 1, 3);
        Due.is("cover right behind", 0, x.shoot(0, 1, true));
        x = Due.army("...#./...../.....;99", SOLDIER, 0, 0, BENT, 1, 1, SOLDIER, 1, 4);
        Due.is("cover right ahead of it", 0, x.shoot(0, 1, true));
        x = Due.army("...#./...../.....;99", SOLDIER, 0, 0, BENT, 1, 1, SOLDIER, 1, 2);
        Due.is("cover behind it", 1, x.shoot(0, 1, true));
        x = Due.army("...../..#../.....;99", SOLDIER, 0, 0, BENT, 1, 1, SOLDIER, 1, 3);
        Due.is("cover beside the way", 1, x.shoot(0, 1, true));
        x = Due.army("...../...../..#..;99", SOLDIER, 0, 0, BENT, 1, 6, SOLDIER, 1, 13);
        Due.is("cover at the end of a diagonal", 0, x.shoot(0, 1, true));
        x = Due.army("..#../...../.....;99", SOLDIER, 0, 12, BENT, 1, 7);
        Due.is("cover at the end of a column", 0, x.shoot(0, 1, true));
    }

    private static void andSoOnFromThere() {
        Due.says("(and so on from there, if it is BENT)");
        TinSoldiers x = Due.army(OPEN, SOLDIER, 0, 5, BENT, 1, 6, BENT, 0, 7, BENT, 1, 8, SOLDIER, 0, 9);
        Due.is("through three, to the end of the row", 1, x.shoot(0, 1, true));
        standing("first", x, 1, 1, 1, 1, 0);
        x = Due.army(OPEN, SOLDIER, 0, 5, BENT, 1, 6, OFFICER, 0, 7, BENT, 1, 8, SOLDIER, 0, 9);
        Due.is("an officer ends it", 0, x.shoot(0, 1, true));
        Due.is("the officer was hit", 1, x.about(2, 4));
        Due.is("the one behind was not", 0, x.about(3, 4));
        x = Due.army(OPEN, SOLDIER, 0, 5, BENT, 1, 6, SPY, 0, 7, SOLDIER, 0, 8);
        Due.is("a spy ends it", 1, x.shoot(0, 1, true));
        standing("behind a spy", x, 1, 1, 1, 1);
        x = Due.army("...../...#./.....;99", SOLDIER, 0, 5, BENT, 1, 6, BENT, 0, 7, SOLDIER, 0, 9);
        Due.is("cover ends it", 0, x.shoot(0, 1, true));
        Due.is("the second one was hit", 1, x.about(2, 4));
        x = Due.army(OPEN, SOLDIER, 0, 12, BENT, 1, 7, BENT, 1, 2);
        Due.is("the edge ends it", 0, x.shoot(0, 1, true));
        Due.is("the second one was hit", 1, x.about(2, 4));
    }

    private static void aMissFliesNowhere() {
        Due.says("From a BENT one, whether it falls or not");
        TinSoldiers x = Due.army(OPEN, SOLDIER, 0, 0, BENT, 1, 1, SOLDIER, 1, 2);
        Due.is("a miss", 0, x.shoot(0, 1, false));
        Due.is("it was not hit", 0, x.about(1, 4));
        standing("missed", x, 1, 1, 1);
    }

    private static void howManyByOneShot() {
        Due.says("how many fell or went over by it");
        TinSoldiers x = Due.army(OPEN, SOLDIER, 0, 5, BENT, 1, 6, BENT, 1, 7, BENT, 1, 8, SPY, 1, 9);
        Due.is("the spy alone", 1, x.shoot(0, 1, true));
        Due.is("three fall and the spy goes back", 4, x.shoot(0, 1, true));
        standing("then", x, 1, 0, 0, 0, 1);
        Due.is("the spy alone again, past all that fell", 1, x.shoot(0, 4, true));
        Due.is("dinner()", 3, x.dinner());
    }

    // ---- dinner

    private static void dinnerOfNobody() {
        Due.says("DINNER: how many STAND up.");
        Due.is("without a carpet", 0, new TinSoldiers().dinner());
        TinSoldiers x = Due.laid(OPEN);
        Due.refused("without soldiers", x, x.digest(), 0, x.dinner());
        x = Due.army(OPEN, SOLDIER, 0, 0, SOLDIER, 1, 1);
        Due.refused("nobody fell", x, x.digest(), 0, x.dinner());
    }

    private static void dinnerOfAll() {
        Due.says("DINNER: all that fell STAND up; nobody was HIT yet.");
        TinSoldiers x = Due.army(OPEN, SOLDIER, 0, 7, SOLDIER, 1, 6, GUNNER, 1, 8, OFFICER, 1, 2, BENT, 1, 12, SOLDIER, 1, 1);
        for (int other = 1; other <= 5; other++) {
            x.shoot(0, other, true);
        }
        x.shoot(0, 4, true);
        Due.is("the officer was hit once", 1, x.about(3, 4));
        Due.is("dinner() of four", 4, x.dinner());
        for (int one = 0; one <= 5; one++) {
            Due.is("stands", 1, x.about(one, 3));
            Due.is("was hit", 0, x.about(one, 4));
        }
        Due.is("dinner() again", 0, x.dinner());
        x.shoot(0, 3, true);
        Due.is("dinner() of one hit once", 0, x.dinner());
        Due.is("it was not hit yet", 0, x.about(3, 4));
    }

    private static void dinnerLeavesTheRest() {
        Due.says("DINNER: all that fell STAND up; nobody was HIT yet.");
        TinSoldiers x = Due.army(OPEN, SOLDIER, 0, 0, SPY, 1, 1, SOLDIER, 1, 5);
        Due.sign(x, "n");
        x.tally(1);
        x.shoot(0, 1, true);
        x.shoot(0, 2, true);
        x.dinner();
        int[] want = {15, 7, 9, 3, 2, 1, 2, 1, 1, 1, 0, 1, 0, 0};
        for (int what = 0; what <= 13; what++) {
            Due.is("count(" + what + ")", want[what], x.count(what));
        }
    }

    // ---- treaties and breaches

    private static void noTreatyAtFirst() {
        Due.says("At first there is none. BREACH: of the SHOTS done since it was read the first one that it forbids "
            + "(it is done all the same): its number, as all SHOTS are counted from 1; none.");
        TinSoldiers x = Due.army(OPEN, GUNNER, 0, 0, OFFICER, 1, 6);
        x.shoot(0, 1, false);
        x.shoot(0, 1, false);
        Due.is("no treaty", 0, x.count(7));
        Due.is("no breach", NONE, x.count(8));
    }

    /** Whether a treaty forbids one shot, the first of all. */
    private static void forbidden(String treaty, boolean want, int kind, int from, int other, int to) {
        TinSoldiers x = Due.army(OPEN, kind, 0, from, other, 1, to);
        Due.sign(x, treaty);
        x.shoot(0, 1, false);
        String told = treaty + ", kind " + kind + " on " + from + " at " + other + " on " + to;
        Due.is(told, want ? 1 : NONE, x.count(8));
    }

    private static void noOfficer() {
        Due.says("\"o\" no OFFICER is shot at");
        for (int kind = 0; kind <= 4; kind++) {
            forbidden("o", kind == OFFICER || kind == BENT, SOLDIER, 0, kind, 1);
            forbidden("o", false, kind, 0, SOLDIER, 1);
            forbidden("ndtg", false, SOLDIER, 0, kind, 2);
        }
        TinSoldiers x = Due.army(OPEN, SOLDIER, 0, 0, OFFICER, 1, 1, SOLDIER, 1, 5);
        Due.sign(x, "o");
        x.shoot(0, 2, true);
        Due.is("another one is shot at", NONE, x.count(8));
        x.shoot(0, 1, false);
        Due.is("missing it is shooting at it", 2, x.count(8));
    }

    private static void noDiagonal() {
        Due.says("\"d\" nobody along a diagonal");
        for (int from = 0; from < 15; from++) {
            for (int to = 0; to < 15; to++) {
                if (Lines.distance(from, to) > 0) {
                    boolean straight = from / 5 == to / 5 || from % 5 == to % 5;
                    forbidden("d", !straight, SOLDIER, from, SOLDIER, to);
                }
            }
        }
        forbidden("ontg", false, SOLDIER, 0, SOLDIER, 12);
    }

    private static void noDistanceOne() {
        Due.says("\"n\" nobody at DISTANCE 1");
        for (int from = 0; from < 15; from++) {
            for (int to = 0; to < 15; to++) {
                if (Lines.distance(from, to) > 0) {
                    forbidden("n", Lines.distance(from, to) == 1, SOLDIER, from, SOLDIER, to);
                }
            }
        }
        forbidden("odtg", false, SOLDIER, 0, SOLDIER, 1);
    }

    private static void noGunner() {
        Due.says("\"g\" no GUNNER shoots");
        for (int kind = 0; kind <= 4; kind++) {
            forbidden("g", kind == GUNNER, kind, 0, SOLDIER, 1);
            forbidden("g", false, SOLDIER, 0, kind, 1);
            forbidden("odnt", false, kind, 0, SOLDIER, 2);
        }
    }

    private static void notBehindItsOwn() {
        Due.says("\"t\" no SIDE shoots right behind its own SHOT");
        TinSoldiers x = Due.army(OPEN, SOLDIER, 0, 0, SOLDIER, 1, 1, SOLDIER, 0, 2);
        Due.sign(x, "t");
        x.shoot(0, 1, false);
        Due.is("the first shot of all", NONE, x.count(8));
        x.shoot(1, 0, false);
        x.shoot(2, 1, false);
        x.shoot(1, 2, false);
        Due.is("in turn", NONE, x.count(8));
        x.dinner();
        x.shoot(1, 0, false);
        Due.is("its own, behind dinner, too", 5, x.count(8));
        x = Due.army(OPEN, SOLDIER, 0, 0, SOLDIER, 1, 1, SOLDIER, 0, 2);
        Due.sign(x, "t");
        x.shoot(0, 1, false);
        x.shoot(2, 1, false);
        Due.is("another one of its side", 2, x.count(8));
        x = Due.army(OPEN, SOLDIER, 0, 0, SOLDIER, 1, 1);
        Due.sign(x, "odg");
        x.shoot(1, 0, false);
        x.shoot(1, 0, false);
        Due.is("without a t", NONE, x.count(8));
        spiesAndTurns();
    }

    private static void spiesAndTurns() {
        TinSoldiers x = Due.army(OPEN, SPY, 1, 0, SOLDIER, 0, 1, SOLDIER, 1, 2);
        Due.sign(x, "t");
        x.shoot(0, 1, false);
        x.shoot(1, 0, true);
        Due.is("it went over", 0, x.about(0, 1));
        x.move(1, 5);
        x.move(2, 1);
        x.shoot(0, 2, false);
        Due.is("for its new side, behind a shot of that", 3, x.count(8));
        x = Due.army(OPEN, SPY, 1, 0, SOLDIER, 0, 1, SOLDIER, 1, 6);
        Due.sign(x, "t");
        x.shoot(1, 0, true);
        x.shoot(2, 0, false);
        x.shoot(0, 2, true);
        Due.is("the sides as they were at each shot", NONE, x.count(8));
    }

    private static void notBehindItsOwnAheadOfTheTreaty() {
        Due.says("no SIDE shoots right behind its own SHOT");
        for (int side = 0; side <= 1; side++) {
            TinSoldiers x = Due.army(OPEN, SOLDIER, 0, 0, SOLDIER, 1, 1);
            x.shoot(0, 1, false);
            Due.sign(x, "t");
            x.shoot(side, 1 - side, false);
            Due.is("side " + side + " behind side 0", side == 0 ? 2 : NONE, x.count(8));
        }
    }

    private static void sinceItWasRead() {
        Due.says("of the SHOTS done since it was read");
        TinSoldiers x = Due.army(OPEN, GUNNER, 0, 0, SOLDIER, 1, 2);
        x.shoot(0, 1, false);
        Due.sign(x, "g");
        Due.is("none since", NONE, x.count(8));
        x.shoot(1, 0, false);
        Due.is("a fine one since", NONE, x.count(8));
        x.shoot(0, 1, false);
        Due.is("a forbidden one since", 3, x.count(8));
        Due.sign(x, "g");
        Due.is("none since it was read again", NONE, x.count(8));
        x.shoot(0, 1, false);
        Due.is("as all shots are counted", 4, x.count(8));
    }

    private static void theFirstOne() {
        Due.says("the first one that it forbids");
        TinSoldiers x = Due.army(OPEN, GUNNER, 0, 0, SOLDIER, 1, 1);
        Due.sign(x, "gnt");
        x.shoot(0, 1, false);
        Due.is("the first shot", 1, x.count(8));
        for (int shot = 2; shot <= 9; shot++) {
            x.shoot(0, 1, false);
            Due.is("behind shot " + shot, 1, x.count(8));
        }
    }

    private static void doneAllTheSame() {
        Due.says("(it is done all the same)");
        TinSoldiers x = Due.army(OPEN, GUNNER, 0, 0, SOLDIER, 1, 1);
        Due.sign(x, "g");
        Due.is("shoot(0, 1, true)", 1, x.shoot(0, 1, true));
        standing("forbidden", x, 1, 0);
        Due.is("it took a pea", 8, x.count(1));
        Due.is("it is counted", 1, x.count(6));
        Due.is("breach", 1, x.count(8));
    }

    private static void refusedShotsAreNone() {
        Due.says("its number, as all SHOTS are counted from 1");
        TinSoldiers x = Due.army(OPEN, GUNNER, 0, 0, SOLDIER, 1, 1, SOLDIER, 1, 2);
        Due.sign(x, "g");
        x.shoot(0, 2, true);
        x.shoot(0, 0, true);
        x.shoot(0, 3, true);
        Due.is("no shot", 0, x.count(6));
        Due.is("no breach by refused ones", NONE, x.count(8));
        x.shoot(0, 1, false);
        Due.is("the first one", 1, x.count(8));
    }
}
