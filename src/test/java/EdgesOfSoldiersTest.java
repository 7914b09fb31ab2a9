/** Each sentence about soldiers that names an edge: promises 8 to 12, and the terms they rest on. */
public final class EdgesOfSoldiersTest {
    private static final int NONE = -1, UNKNOWN = -101, OUTSIDE = -102, STATE = -103, FULL = -104;
    private static final int SOLDIER = 0, OFFICER = 1, SPY = 2, GUNNER = 3, BENT = 4;
    private static final String OPEN = "...../...../.....;99";

    public static void main(String[] args) {
        kindsAndSides();
        cellsOfSoldiers();
        onOpenCellsAlone();
        onCellsOfTheirOwn();
        sixAtMost();
        refusalsOfSoldierInOrder();
        standAtFirst();
        numbersOfAbout();
        whatOfAbout();
        howOftenHit();
        howManyToShootAt();
        numbersAndKindsOfCasts();
        kindsOfKinds();
        numbersAndCellsOfMoves();
        movesToClosedCells();
        movesOfFallen();
        movesThereAndBack();
        numbersOfTenths();
        linesAlone();
        blockedByCover();
        blockedByWhoStands();
        othersAlone();
        thoseThatStandAlone();
        ofTheOtherSideAlone();
        withPeasAlone();
        byDistance();
        byCoverAround();
        coverCountsOnce();
        oneAtLeast();
        Due.end();
    }

    private static TinSoldiers two(String carpet, int kind, int from, int kindOfOther, int to) {
        TinSoldiers x = Due.laid(carpet);
        Due.is("soldier(" + kind + ", 0, " + from + ")", 0, x.soldier(kind, 0, from));
        Due.is("soldier(" + kindOfOther + ", 1, " + to + ")", 1, x.soldier(kindOfOther, 1, to));
        return x;
    }

    // ---- soldier

    private static void kindsAndSides() {
        Due.says("OUTSIDE: kind, side; UNKNOWN: cell; STATE: it is not open, or somebody is there; FULL.");
        for (int kind = 0; kind <= 4; kind++) {
            for (int side = 0; side <= 1; side++) {
                TinSoldiers x = Due.laid(OPEN);
                Due.is("soldier(" + kind + ", " + side + ", 3)", 0, x.soldier(kind, side, 3));
                Due.is("about(0, 0)", kind, x.about(0, 0));
                Due.is("about(0, 1)", side, x.about(0, 1));
                Due.is("about(0, 2)", 3, x.about(0, 2));
            }
        }
        TinSoldiers x = Due.laid(OPEN);
        Due.is("soldier(-1, 0, 0)", OUTSIDE, x.soldier(-1, 0, 0));
        Due.is("soldier(5, 0, 0)", OUTSIDE, x.soldier(5, 0, 0));
        Due.is("soldier(0, -1, 0)", OUTSIDE, x.soldier(0, -1, 0));
        Due.is("soldier(0, 2, 0)", OUTSIDE, x.soldier(0, 2, 0));
        for (int far : Due.FAR) {
            Due.is("soldier(" + far + ", 0, 0)", OUTSIDE, x.soldier(far, 0, 0));
            Due.is("soldier(0, " + far + ", 0)", OUTSIDE, x.soldier(0, far, 0));
        }
        Due.is("nobody came", 0, x.count(3));
    }

    private static void cellsOfSoldiers() {
        Due.says("CELLS are 0 to 14 as told");
        for (int cell = 0; cell < 15; cell++) {
            TinSoldiers x = Due.laid(OPEN);
            Due.is("soldier(0, 0, " + cell + ")", 0, x.soldier(SOLDIER, 0, cell));
            Due.is("cell(" + cell + ", 1)", 0, x.cell(cell, 1));
        }
        TinSoldiers x = Due.laid(OPEN);
        Due.refused("soldier(0, 0, -1)", x, x.digest(), UNKNOWN, x.soldier(SOLDIER, 0, -1));
        Due.refused("soldier(0, 0, 15)", x, x.digest(), UNKNOWN, x.soldier(SOLDIER, 0, 15));
        for (int far : Due.FAR) {
            Due.is("soldier(0, 0, " + far + ")", UNKNOWN, x.soldier(SOLDIER, 0, far));
        }
        Due.is("soldier(0, 0, 0) without a carpet", UNKNOWN, new TinSoldiers().soldier(SOLDIER, 0, 0));
        Due.is("soldier(0, 0, 14) without a carpet", UNKNOWN, new TinSoldiers().soldier(SOLDIER, 0, 14));
    }

    private static void onOpenCellsAlone() {
        Due.says("STATE: it is not open");
        for (int cell = 0; cell < 15; cell++) {
            TinSoldiers x = Due.laid(Lines.carpet(1 << cell, "99"));
            Due.refused("soldier(0, 0, " + cell + "), cover", x, x.digest(), STATE, x.soldier(SOLDIER, 0, cell));
            Due.is("beside it", 0, x.soldier(SOLDIER, 0, (cell + 1) % 15));
        }
    }

    private static void onCellsOfTheirOwn() {
        Due.says("each on an open CELL of its own");
        TinSoldiers x = two(OPEN, SOLDIER, 0, SOLDIER, 14);
        x.soldier(SOLDIER, 1, 5);
        Due.refused("where the first is", x, x.digest(), STATE, x.soldier(OFFICER, 0, 0));
        Due.refused("where one of the other side is", x, x.digest(), STATE, x.soldier(OFFICER, 0, 14));
        x.shoot(0, 2, true);
        Due.refused("where one that fell is", x, x.digest(), STATE, x.soldier(OFFICER, 0, 5));
        x.move(2, 6);
        Due.is("where one was", 3, x.soldier(OFFICER, 0, 5));
    }

    private static void sixAtMost() {
        Due.says("SOLDIERS (6 at most, numbered)");
        TinSoldiers x = Due.laid(OPEN);
        x.image();
        for (int round = 0; round < 2; round++) {
            for (int number = 0; number < 6; number++) {
                Due.is("soldier number " + number, number, x.soldier(SOLDIER, number % 2, number));
            }
            Due.refused("soldier number 6", x, x.digest(), FULL, x.soldier(SOLDIER, 0, 6));
            Due.is("soldiers", 6, x.count(3));
            Due.is("nobody is there", NONE, x.cell(6, 1));
            x.restore();
        }
        x.soldier(SOLDIER, 0, 0);
        Due.write(x, OPEN);
        x.carpet();
        for (int number = 0; number < 6; number++) {
            Due.is("soldier number " + number + " on another carpet", number, x.soldier(SPY, 0, 14 - number));
        }
        Due.is("soldier number 6 on another carpet", FULL, x.soldier(SPY, 0, 0));
    }

    private static void refusalsOfSoldierInOrder() {
        Due.says("of several the first as told by each call");
        TinSoldiers x = Due.laid("#..../...../.....;99");
        for (int number = 0; number < 6; number++) {
            x.soldier(SOLDIER, 0, 5 + number);
        }
        Due.is("kind, cell, full", OUTSIDE, x.soldier(5, 0, 15));
        Due.is("side, cell, full", OUTSIDE, x.soldier(0, 2, -1));
        Due.is("kind, cover, full", OUTSIDE, x.soldier(-1, 0, 0));
        Due.is("side, somebody, full", OUTSIDE, x.soldier(0, -1, 5));
        Due.is("cell, full", UNKNOWN, x.soldier(0, 0, 15));
        Due.is("cover, full", STATE, x.soldier(0, 0, 0));
        Due.is("somebody, full", STATE, x.soldier(0, 0, 5));
        Due.is("full", FULL, x.soldier(0, 0, 1));
        Due.is("kind, cell without a carpet", OUTSIDE, new TinSoldiers().soldier(5, 0, 0));
        Due.is("side, cell without a carpet", OUTSIDE, new TinSoldiers().soldier(0, 2, 0));
    }

    private static void standAtFirst() {
        Due.says("all STAND at first");
        TinSoldiers x = Due.laid(OPEN);
        for (int kind = 0; kind <= 4; kind++) {
            x.soldier(kind, 1, kind);
            Due.is("it stands", 1, x.about(kind, 3));
            Due.is("it was not hit", 0, x.about(kind, 4));
        }
        Due.is("all stand", 5, x.count(5));
    }

    // ---- about

    private static void numbersOfAbout() {
        Due.says("UNKNOWN (a number names nothing)");
        TinSoldiers x = Due.laid(OPEN);
        for (int many = 0; many <= 6; many++) {
            for (int what = -1; what <= 6; what++) {
                Due.is("about(-1, " + what + ")", UNKNOWN, x.about(-1, what));
                Due.is("about(" + many + ", " + what + ") of " + many, UNKNOWN, x.about(many, what));
            }
            Due.is("the last of " + many, many == 0 ? UNKNOWN : many - 1, x.about(many - 1, 2));
            if (many < 6) {
                x.soldier(SOLDIER, 0, many);
            }
        }
        for (int far : Due.FAR) {
            Due.is("about(" + far + ", 0)", UNKNOWN, x.about(far, 0));
        }
        Due.is("about(0, 0) without a carpet", UNKNOWN, new TinSoldiers().about(0, 0));
    }

    private static void whatOfAbout() {
        Due.says("what = 0 KIND, 1 SIDE, 2 CELL, 3 whether it STANDS (1, 0)");
        TinSoldiers x = two(OPEN, GUNNER, 14, OFFICER, 4);
        int[] want = {GUNNER, 0, 14, 1, 0, 1};
        for (int what = 0; what <= 5; what++) {
            Due.is("about(0, " + what + ")", want[what], x.about(0, what));
        }
        Due.is("about(0, -1)", OUTSIDE, x.about(0, -1));
        Due.is("about(0, 6)", OUTSIDE, x.about(0, 6));
        for (int far : Due.FAR) {
            Due.is("about(0, " + far + ")", OUTSIDE, x.about(0, far));
        }
    }

    private static void howOftenHit() {
        Due.says("4 how often it was HIT (since it STOOD up; of a SPY 0)");
        int[] hitsToFall = {1, 2, 0, 1, 2};
        for (int kind = 0; kind <= 4; kind++) {
            TinSoldiers x = two(OPEN, SOLDIER, 0, kind, 1);
            x.shoot(0, 1, false);
            Due.is("missed, kind " + kind, 0, x.about(1, 4));
            for (int hits = 1; hits <= hitsToFall[kind]; hits++) {
                x.shoot(0, 1, true);
                Due.is("hit, kind " + kind, hits, x.about(1, 4));
                Due.is("stands, kind " + kind, hits < hitsToFall[kind] ? 1 : 0, x.about(1, 3));
            }
            x.dinner();
            Due.is("behind dinner(), kind " + kind, 0, x.about(1, 4));
        }
        TinSoldiers x = two(OPEN, SPY, 0, SPY, 1);
        x.soldier(SOLDIER, 1, 2);
        x.shoot(0, 1, true);
        Due.is("a spy that went over", 0, x.about(1, 4));
        x.shoot(2, 1, true);
        Due.is("a spy that went back", 0, x.about(1, 4));
        Due.is("it stands", 1, x.about(1, 3));
    }

    private static void howManyToShootAt() {
        Due.says("5 at how many it can shoot now");
        TinSoldiers x = Due.laid("...../...../.....;19");
        x.soldier(SOLDIER, 0, 7);
        int[] around = {1, 2, 3, 6, 8};
        for (int many = 0; many < 5; many++) {
            Due.is("about(0, 5) of " + many, many, x.about(0, 5));
            x.soldier(SOLDIER, 1, around[many]);
        }
        Due.is("about(0, 5) of all five", 5, x.about(0, 5));
        Due.is("about(5, 5)", 1, x.about(5, 5));
        x.shoot(0, 1, true);
        Due.is("about(0, 5) without a pea", 0, x.about(0, 5));
        Due.is("about(1, 5), fallen", 0, x.about(1, 5));
        x.shoot(2, 0, true);
        Due.is("about(5, 5), it fell", 0, x.about(5, 5));
    }

    // ---- as

    private static void numbersAndKindsOfCasts() {
        Due.says("A soldier taken as a KIND: its number; NONE: it is none such (the cast fails). UNKNOWN; OUTSIDE.");
        TinSoldiers x = two(OPEN, SOLDIER, 0, BENT, 1);
        Due.is("as(-1, 0)", UNKNOWN, x.as(-1, 0));
        Due.is("as(2, 0)", UNKNOWN, x.as(2, 0));
        Due.is("as(-1, -1)", UNKNOWN, x.as(-1, -1));
        Due.is("as(2, 5)", UNKNOWN, x.as(2, 5));
        Due.is("as(0, -1)", OUTSIDE, x.as(0, -1));
        Due.is("as(1, 5)", OUTSIDE, x.as(1, 5));
        Due.is("as(0, 0)", 0, x.as(0, 0));
        Due.is("as(1, 4)", 1, x.as(1, 4));
        for (int far : Due.FAR) {
            Due.is("as(" + far + ", 0)", UNKNOWN, x.as(far, 0));
            Due.is("as(0, " + far + ")", OUTSIDE, x.as(0, far));
        }
        Due.is("as(0, 0) without a carpet", UNKNOWN, new TinSoldiers().as(0, 0));
    }

    private static void kindsOfKinds() {
        Due.says("All are SOLDIERS; a BENT one is an OFFICER, too.");
        String[] isA = {"10000", "11000", "10100", "10010", "11001"};
        TinSoldiers x = Due.laid(OPEN);
        x.soldier(GUNNER, 1, 14);
        for (int one = 0; one <= 4; one++) {
            x.soldier(one, 0, one);
            for (int kind = 0; kind <= 4; kind++) {
                int want = isA[one].charAt(kind) == '1' ? one + 1 : NONE;
                Due.is("one of kind " + one + " as " + kind, want, x.as(one + 1, kind));
            }
        }
        x.shoot(0, 5, true);
        x.shoot(0, 5, true);
        Due.is("a fallen one as an officer", 5, x.as(5, OFFICER));
        Due.is("as what it is, fallen", 5, x.as(5, BENT));
    }

    // ---- move

    private static void numbersAndCellsOfMoves() {
        Due.says("It is moved (fallen or not): where it was. UNKNOWN: soldier, cell; "
            + "STATE: the CELL is not open, or somebody is there.");
        TinSoldiers x = two("#..../...../.....;99", SOLDIER, 1, SOLDIER, 2);
        Due.is("move(-1, 3)", UNKNOWN, x.move(-1, 3));
        Due.is("move(2, 3)", UNKNOWN, x.move(2, 3));
        Due.is("move(0, -1)", UNKNOWN, x.move(0, -1));
        Due.is("move(0, 15)", UNKNOWN, x.move(0, 15));
        Due.is("move(2, 0), cover", UNKNOWN, x.move(2, 0));
        Due.is("move(-1, 1), somebody", UNKNOWN, x.move(-1, 1));
        for (int far : Due.FAR) {
            Due.is("move(" + far + ", 3)", UNKNOWN, x.move(far, 3));
            Due.is("move(0, " + far + ")", UNKNOWN, x.move(0, far));
        }
        Due.is("it is where it was", 1, x.about(0, 2));
        Due.is("move(0, 14)", 1, x.move(0, 14));
        Due.is("move(1, 1)", 2, x.move(1, 1));
        Due.is("move(0, 0) without a carpet", UNKNOWN, new TinSoldiers().move(0, 0));
    }

    private static void movesToClosedCells() {
        Due.says("STATE: the CELL is not open, or somebody is there.");
        TinSoldiers x = two("#..../...../.....;99", SOLDIER, 1, SOLDIER, 2);
        Due.refused("onto cover", x, x.digest(), STATE, x.move(0, 0));
        Due.refused("onto the other one", x, x.digest(), STATE, x.move(0, 2));
        Due.refused("onto the first one", x, x.digest(), STATE, x.move(1, 1));
        Due.refused("onto itself", x, x.digest(), STATE, x.move(0, 1));
        x.shoot(0, 1, true);
        Due.refused("onto one that fell", x, x.digest(), STATE, x.move(0, 2));
        Due.refused("a fallen one onto itself", x, x.digest(), STATE, x.move(1, 2));
    }

    private static void movesOfFallen() {
        Due.says("It is moved (fallen or not)");
        TinSoldiers x = two(OPEN, SOLDIER, 1, SOLDIER, 2);
        x.shoot(0, 1, true);
        Due.is("move(1, 14)", 2, x.move(1, 14));
        Due.is("it is there", 14, x.about(1, 2));
        Due.is("it does not stand", 0, x.about(1, 3));
        Due.is("it was hit", 1, x.about(1, 4));
        Due.is("who is there", 1, x.cell(14, 1));
        Due.is("who was there", NONE, x.cell(2, 1));
    }

    private static void movesThereAndBack() {
        Due.says("where it was");
        TinSoldiers x = two(OPEN, OFFICER, 7, SOLDIER, 8);
        x.shoot(1, 0, true);
        int from = 7;
        for (int cell = 14; cell >= 0; cell--) {
            if (cell == 8 || cell == from) {
                continue;
            }
            Due.is("move(0, " + cell + ")", from, x.move(0, cell));
            from = cell;
        }
        Due.is("hits go with it", 1, x.about(0, 4));
    }

    // ---- tenths

    private static void numbersOfTenths() {
        Due.says("TENTHS by which one HITS another one; 0: it cannot shoot at it. UNKNOWN: a, b.");
        TinSoldiers x = two(OPEN, SOLDIER, 0, SOLDIER, 1);
        Due.is("tenths(0, 1)", 8, x.tenths(0, 1));
        Due.is("tenths(1, 0)", 8, x.tenths(1, 0));
        Due.is("tenths(-1, 0)", UNKNOWN, x.tenths(-1, 0));
        Due.is("tenths(0, -1)", UNKNOWN, x.tenths(0, -1));
        Due.is("tenths(2, 0)", UNKNOWN, x.tenths(2, 0));
        Due.is("tenths(0, 2)", UNKNOWN, x.tenths(0, 2));
        Due.is("tenths(2, 2)", UNKNOWN, x.tenths(2, 2));
        for (int far : Due.FAR) {
            Due.is("tenths(" + far + ", 0)", UNKNOWN, x.tenths(far, 0));
            Due.is("tenths(0, " + far + ")", UNKNOWN, x.tenths(0, far));
        }
        Due.is("tenths(0, 0) without a carpet", UNKNOWN, new TinSoldiers().tenths(0, 0));
    }

    private static int due(int kind, int distance, boolean cover) {
        int tenths = 10 - (kind == GUNNER ? distance : 2 * distance) - (cover ? 2 : 0);
        return tenths < 1 ? 1 : tenths;
    }

    private static void linesAlone() {
        Due.says("A LINE goes from one CELL to another one of the same row, column or diagonal");
        for (int from = 0; from < 15; from++) {
            TinSoldiers x = two(OPEN, SOLDIER, from, SOLDIER, (from + 1) % 15);
            for (int to = 0; to < 15; to++) {
                if (to == from) {
                    continue;
                }
                x.move(1, to);
                int distance = Lines.distance(from, to);
                int want = distance == 0 ? 0 : due(SOLDIER, distance, false);
                Due.is("tenths from " + from + " to " + to, want, x.tenths(0, 1));
                Due.is("tenths from " + to + " to " + from, want, x.tenths(1, 0));
                Due.is("about(0, 5), from " + from + " to " + to, distance == 0 ? 0 : 1, x.about(0, 5));
            }
        }
    }

    /** Each line, with cover on each other cell. */
    private static void blockedByCover() {
        Due.says("It is BLOCKED by COVER, or a soldier that STANDS, on a CELL between both.");
        for (int cover = 0; cover < 15; cover++) {
            for (int pair = 0; pair < 225; pair++) {
                int from = pair / 15;
                int to = pair % 15;
                if (from == to || from == cover || to == cover) {
                    continue;
                }
                TinSoldiers x = two(Lines.carpet(1 << cover, "99"), SOLDIER, from, SOLDIER, to);
                boolean can = Lines.distance(from, to) > 0 && !Lines.isBetween(cover, from, to);
                int want = can ? due(SOLDIER, Lines.distance(from, to), Lines.isAround(cover, to)) : 0;
                Due.is("tenths from " + from + " to " + to + ", cover on " + cover, want, x.tenths(0, 1));
            }
        }
    }

    /** Each line, with a soldier of either side on each other cell, standing or fallen. */
    private static void blockedByWhoStands() {
        Due.says("or a soldier that STANDS, on a CELL between both");
        for (int pair = 0; pair < 225; pair++) {
            int from = pair / 15;
            int to = pair % 15;
            if (Lines.distance(from, to) == 0) {
                continue;
            }
            for (int there = 0; there < 15; there++) {
                if (there == from || there == to) {
                    continue;
                }
                TinSoldiers x = two(OPEN, SOLDIER, from, SOLDIER, to);
                x.soldier(SOLDIER, there % 2, there);
                boolean can = !Lines.isBetween(there, from, to);
                int want = can ? due(SOLDIER, Lines.distance(from, to), false) : 0;
                Due.is("tenths from " + from + " to " + to + ", one on " + there, want, x.tenths(0, 1));
                x = two(OPEN, SOLDIER, there, SOLDIER, from);
                x.soldier(SOLDIER, 0, to);
                Due.is("tenths from " + from + " to " + to + ", the first on " + there, want, x.tenths(1, 2));
            }
        }
        TinSoldiers x = two(OPEN, SOLDIER, 0, SOLDIER, 4);
        x.soldier(SOLDIER, 1, 2);
        Due.is("past one that stands", 0, x.tenths(0, 1));
        x.shoot(0, 2, true);
        Due.is("past one that fell", 2, x.tenths(0, 1));
        x.dinner();
        Due.is("past one that stood up", 0, x.tenths(0, 1));
    }

    private static void othersAlone() {
        Due.says("One that STANDS can shoot at another one that STANDS");
        TinSoldiers x = two(OPEN, GUNNER, 0, SPY, 1);
        Due.is("at itself", 0, x.tenths(0, 0));
        Due.is("the other one at itself", 0, x.tenths(1, 1));
    }

    private static void thoseThatStandAlone() {
        Due.says("One that STANDS can shoot at another one that STANDS");
        TinSoldiers x = two(OPEN, SOLDIER, 0, SOLDIER, 1);
        x.shoot(0, 1, true);
        Due.is("at one that fell", 0, x.tenths(0, 1));
        Due.is("by one that fell", 0, x.tenths(1, 0));
        x.dinner();
        Due.is("at one that stood up", 8, x.tenths(0, 1));
        Due.is("by one that stood up", 8, x.tenths(1, 0));
        x = two(OPEN, SOLDIER, 0, OFFICER, 1);
        x.shoot(0, 1, true);
        Due.is("at an officer hit once", 8, x.tenths(0, 1));
        Due.is("by an officer hit once", 8, x.tenths(1, 0));
    }

    private static void ofTheOtherSideAlone() {
        Due.says("of the other SIDE, along a LINE that is not BLOCKED");
        for (int side = 0; side <= 1; side++) {
            TinSoldiers x = Due.laid(OPEN);
            x.soldier(SOLDIER, side, 0);
            x.soldier(SPY, side, 1);
            x.soldier(SOLDIER, 1 - side, 2);
            Due.is("at its own side", 0, x.tenths(0, 1));
            Due.is("a spy at its own side", 0, x.tenths(1, 0));
            x.shoot(2, 1, true);
            Due.is("at one that went over", 8, x.tenths(0, 1));
            Due.is("by one that went over", 8, x.tenths(1, 0));
            Due.is("at its new side", 0, x.tenths(1, 2));
        }
    }

    private static void withPeasAlone() {
        Due.says("if its SIDE has a PEA");
        for (int peas = 0; peas <= 2; peas++) {
            TinSoldiers x = two("...../...../.....;" + peas + "0", SOLDIER, 0, SOLDIER, 1);
            for (int left = peas; left >= 0; left--) {
                Due.is("tenths(0, 1) with " + left, left > 0 ? 8 : 0, x.tenths(0, 1));
                Due.is("tenths(1, 0) with none", 0, x.tenths(1, 0));
                Due.is("shoot(0, 1, false) with " + left, left > 0 ? 0 : STATE, x.shoot(0, 1, false));
            }
            Due.is("none left", 0, x.count(1));
        }
        TinSoldiers x = two("...../...../.....;01", SOLDIER, 0, SOLDIER, 1);
        Due.is("side 0 has none", 0, x.tenths(0, 1));
        Due.is("side 1 has one", 8, x.tenths(1, 0));
    }

    private static void byDistance() {
        Due.says("10 less twice DISTANCE (a GUNNER: less DISTANCE once)");
        int[][] due = {{8, 6, 4, 2}, {8, 6, 4, 2}, {8, 6, 4, 2}, {9, 8, 7, 6}, {8, 6, 4, 2}};
        for (int kind = 0; kind <= 4; kind++) {
            for (int other = 0; other <= 4; other++) {
                for (int distance = 1; distance <= 4; distance++) {
                    TinSoldiers x = two(OPEN, kind, 10, other, 10 + distance);
                    Due.is("kind " + kind + " at " + other + ", " + distance, due[kind][distance - 1], x.tenths(0, 1));
                    Due.is("kind " + other + " at " + kind + ", " + distance, due[other][distance - 1], x.tenths(1, 0));
                }
            }
        }
    }

    /** At a soldier on each cell, along each line, with cover on each other cell that is not between. */
    private static void byCoverAround() {
        Due.says("2 less if there is COVER on one of the CELLS around the other one (eight, or fewer)");
        for (int to = 0; to < 15; to++) {
            for (int from = 0; from < 15; from++) {
                for (int cover = 0; cover < 15; cover++) {
                    boolean free = cover != to && cover != from && !Lines.isBetween(cover, from, to);
                    if (free && Lines.distance(from, to) > 0) {
                        TinSoldiers x = two(Lines.carpet(1 << cover, "99"), GUNNER, from, SOLDIER, to);
                        int want = due(GUNNER, Lines.distance(from, to), Lines.isAround(cover, to));
                        Due.is("from " + from + " to " + to + ", cover on " + cover, want, x.tenths(0, 1));
                    }
                }
            }
        }
    }

    private static void coverCountsOnce() {
        Due.says("if there is COVER on one of the CELLS around the other one");
        TinSoldiers x = two("###../#...#/###..;99", GUNNER, 7, SOLDIER, 6);
        Due.is("seven around it", 7, x.tenths(0, 1));
        Due.is("cover around it, too", 6, x.tenths(1, 0));
        x = two("##.../##.../.....;99", GUNNER, 13, SOLDIER, 14);
        Due.is("none around it", 9, x.tenths(0, 1));
    }

    private static void oneAtLeast() {
        Due.says("1 at least.");
        String beside = "...#./...../.....;99";
        for (int kind : new int[] {SOLDIER, OFFICER, SPY, BENT}) {
            Due.is("10 less 8 less 2", 1, two(beside, kind, 5, SOLDIER, 9).tenths(0, 1));
            Due.is("10 less 6 less 2", 2, two(beside, kind, 6, SOLDIER, 9).tenths(0, 1));
            Due.is("10 less 8", 2, two(beside, kind, 10, SOLDIER, 14).tenths(0, 1));
        }
        Due.is("a gunner: 10 less 4 less 2", 4, two(beside, GUNNER, 5, SOLDIER, 9).tenths(0, 1));
        TinSoldiers x = two(beside, SOLDIER, 5, SOLDIER, 9);
        Due.is("it can shoot", 1, x.about(0, 5));
        Due.is("it hits", 1, x.shoot(0, 1, true));
    }
}
