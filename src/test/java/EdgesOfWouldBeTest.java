/** Each sentence about what would be that names an edge: promises 15 and 16, and the terms they rest on. */
public final class EdgesOfWouldBeTest {
    private static final int NONE = -1, OUTSIDE = -102, STATE = -103;
    private static final int SOLDIER = 0, OFFICER = 1, SPY = 2, GUNNER = 3, BENT = 4;
    private static final String OPEN = "...../...../.....;99";

    public static void main(String[] args) {
        whatOfWatch();
        watchWithoutCarpet();
        watchTwentyTimes();
        refusalsOfWatchInOrder();
        watchOfNone();
        watchOfOne();
        watchByFew();
        watchOfLikeOnes();
        watchWhoeverStands();
        argumentsOfBest();
        bestWithoutCarpet();
        bestTwentyTimes();
        refusalsOfBestInOrder();
        bestOfNobody();
        bestOfOneSideAlone();
        bestWithoutPeas();
        oneToThreeShots();
        inTurn();
        lowestTerms();
        passingIfAsGood();
        ofLikeOnesTheLeast();
        leastAndLargestShot();
        leastForTheOtherSide();
        whoFellAlready();
        whoWasHitAlready();
        peaThatFliesOn();
        spiesInBest();
        bestTakesPeas();
        bestByCover();
        bestIgnoresTreaty();
        bestChangesNothingElse();
        Due.end();
    }

    // ---- watch

    private static void whatOfWatch() {
        Due.says("WATCH: what = 0 by how few, 1 which, as bits. OUTSIDE; "
            + "STATE: no CARPET, or watch() was done 20 times.");
        TinSoldiers x = Due.laid(OPEN);
        Due.refused("watch(-1)", x, x.digest(), OUTSIDE, x.watch(-1));
        Due.refused("watch(2)", x, x.digest(), OUTSIDE, x.watch(2));
        for (int far : Due.FAR) {
            Due.is("watch(" + far + ")", OUTSIDE, x.watch(far));
        }
        Due.is("none was done", 0, x.count(12));
        Due.is("watch(0)", 2, x.watch(0));
        Due.is("watch(1)", 132, x.watch(1));
        Due.is("two were done", 2, x.count(12));
    }

    private static void watchWithoutCarpet() {
        Due.says("STATE: no CARPET, or watch() was done 20 times.");
        TinSoldiers x = new TinSoldiers();
        Due.refused("watch(0)", x, x.digest(), STATE, x.watch(0));
        Due.refused("watch(1)", x, x.digest(), STATE, x.watch(1));
        Due.is("none was done", 0, x.count(12));
    }

    private static void watchTwentyTimes() {
        Due.says("or watch() was done 20 times");
        TinSoldiers x = Due.laid(OPEN);
        x.image();
        for (int done = 1; done <= 20; done++) {
            Due.is("watch() number " + done, done % 2 == 0 ? 2 : 132, x.watch(done % 2));
            Due.is("done", done, x.count(12));
            x.watch(2);
        }
        Due.refused("watch(0) number 21", x, x.digest(), STATE, x.watch(0));
        Due.refused("watch(1) number 21", x, x.digest(), STATE, x.watch(1));
        Due.is("best() may be done", 0, x.best(0, 1, 0));
        x.restore();
        Due.is("behind restore()", STATE, x.watch(0));
        Due.write(x, OPEN);
        x.carpet();
        Due.is("on another carpet", STATE, x.watch(0));
        Due.is("done", 20, x.count(12));
    }

    private static void refusalsOfWatchInOrder() {
        Due.says("of several the first as told by each call");
        Due.is("watch(2) without a carpet", OUTSIDE, new TinSoldiers().watch(2));
        TinSoldiers x = Due.laid(OPEN);
        for (int done = 0; done < 20; done++) {
            x.watch(0);
        }
        Due.is("watch(-1), done 20 times", OUTSIDE, x.watch(-1));
        Due.is("watch(2), done 20 times", OUTSIDE, x.watch(2));
    }

    private static void watch(String carpet, int few, int which) {
        TinSoldiers x = Due.laid(carpet);
        Due.is(carpet + ": watch(0)", few, x.watch(0));
        Due.is(carpet + ": watch(1)", which, x.watch(1));
    }

    private static void watchOfNone() {
        Due.says("WATCH: by how few open CELLS together all open ones are SEEN");
        watch("#####/#####/#####;00", 0, 0);
    }

    private static void watchOfOne() {
        Due.says("by how few open CELLS together all open ones are SEEN");
        for (int cell = 0; cell < 15; cell++) {
            watch(Lines.carpet(0x7FFF ^ 1 << cell, "00"), 1, 1 << cell);
        }
    }

    private static void watchByFew() {
        Due.says("by how few open CELLS together");
        watch(OPEN, 2, 1 << 2 | 1 << 7);
        watch(".#.#./#####/.#.#.;00", 6, 1 | 1 << 2 | 1 << 4 | 1 << 10 | 1 << 12 | 1 << 14);
        watch(".#.#./#####/#####;00", 3, 1 | 1 << 2 | 1 << 4);
        watch("##.##/##.##/.....;00", 1, 1 << 12);
        watch("#####/##.##/#####;00", 1, 1 << 7);
        watch("...../####./.....;00", 2, 1 << 3 | 1 << 10);
        watch("...##/...##/...##;00", 1, 1 << 6);
    }

    private static void watchOfLikeOnes() {
        Due.says("which: of like ones the least bits");
        watch("...../#####/#####;00", 1, 1);
        watch("#####/...../#####;00", 1, 1 << 5);
        watch("#####/#####/.....;00", 1, 1 << 10);
        watch("..###/..###/#####;00", 1, 1);
        watch("...../#####/.....;00", 2, 1 | 1 << 10);
        watch(".#.##/#####/..###;00", 3, 1 | 1 << 2 | 1 << 10);
    }

    private static void watchWhoeverStands() {
        Due.says("(whoever STANDS there)");
        TinSoldiers x = Due.army(OPEN, SOLDIER, 0, 2, SOLDIER, 1, 7, SPY, 0, 6, BENT, 1, 8, SOLDIER, 0, 1, SOLDIER, 1, 3);
        Due.is("watch(0)", 2, x.watch(0));
        Due.is("watch(1)", 132, x.watch(1));
    }

    // ---- best

    private static void argumentsOfBest() {
        Due.says("OUTSIDE: side, shots, what; STATE: no CARPET, or best() was done 20 times.");
        TinSoldiers x = Due.army(OPEN, SOLDIER, 0, 0, SOLDIER, 1, 1);
        Due.refused("best(-1, 1, 0)", x, x.digest(), OUTSIDE, x.best(-1, 1, 0));
        Due.refused("best(2, 1, 0)", x, x.digest(), OUTSIDE, x.best(2, 1, 0));
        Due.refused("best(0, 0, 0)", x, x.digest(), OUTSIDE, x.best(0, 0, 0));
        Due.refused("best(0, 4, 0)", x, x.digest(), OUTSIDE, x.best(0, 4, 0));
        Due.refused("best(0, -1, 0)", x, x.digest(), OUTSIDE, x.best(0, -1, 0));
        Due.refused("best(0, 1, -1)", x, x.digest(), OUTSIDE, x.best(0, 1, -1));
        Due.refused("best(0, 1, 3)", x, x.digest(), OUTSIDE, x.best(0, 1, 3));
        for (int far : Due.FAR) {
            Due.is("best(" + far + ", 1, 0)", OUTSIDE, x.best(far, 1, 0));
            Due.is("best(0, " + far + ", 0)", OUTSIDE, x.best(0, far, 0));
            Due.is("best(0, 1, " + far + ")", OUTSIDE, x.best(0, 1, far));
        }
        Due.is("none was done", 0, x.count(13));
        for (int call = 0; call < 18; call++) {
            Due.holds("best() is done", x.best(call / 9, 1 + call / 3 % 3, call % 3) > OUTSIDE);
        }
        Due.is("all were done", 18, x.count(13));
    }

    private static void bestWithoutCarpet() {
        Due.says("STATE: no CARPET, or best() was done 20 times.");
        TinSoldiers x = new TinSoldiers();
        for (int what = 0; what <= 2; what++) {
            Due.refused("best(0, 1, " + what + ")", x, x.digest(), STATE, x.best(0, 1, what));
            Due.refused("best(1, 3, " + what + ")", x, x.digest(), STATE, x.best(1, 3, what));
        }
        Due.is("none was done", 0, x.count(13));
    }

    private static void bestTwentyTimes() {
        Due.says("or best() was done 20 times");
        TinSoldiers x = Due.army(OPEN, SOLDIER, 0, 0, SOLDIER, 1, 1);
        x.image();
        int[] want = {4, 5, 1};
        for (int done = 1; done <= 20; done++) {
            Due.is("best() number " + done, want[done % 3], x.best(0, 1, done % 3));
            Due.is("done", done, x.count(13));
            x.best(0, 4, 0);
        }
        for (int what = 0; what <= 2; what++) {
            Due.refused("best() number 21", x, x.digest(), STATE, x.best(0, 1, what));
        }
        Due.is("watch() may be done", 2, x.watch(0));
        x.restore();
        Due.is("behind restore()", STATE, x.best(0, 1, 0));
        Due.write(x, OPEN);
        x.carpet();
        Due.is("on another carpet", STATE, x.best(0, 1, 0));
        Due.is("done", 20, x.count(13));
    }

    private static void refusalsOfBestInOrder() {
        Due.says("of several the first as told by each call");
        TinSoldiers x = new TinSoldiers();
        Due.is("best(2, 1, 0) without a carpet", OUTSIDE, x.best(2, 1, 0));
        Due.is("best(0, 4, 0) without a carpet", OUTSIDE, x.best(0, 4, 0));
        Due.is("best(0, 1, 3) without a carpet", OUTSIDE, x.best(0, 1, 3));
        x = Due.laid(OPEN);
        for (int done = 0; done < 20; done++) {
            x.best(0, 1, 0);
        }
        Due.is("best(-1, 1, 0), done 20 times", OUTSIDE, x.best(-1, 1, 0));
        Due.is("best(0, 0, 0), done 20 times", OUTSIDE, x.best(0, 0, 0));
        Due.is("best(0, 1, -1), done 20 times", OUTSIDE, x.best(0, 1, -1));
    }

    /** The mean above and below, and the first shot. */
    private static void best(TinSoldiers x, int side, int shots, int above, int below, int choice) {
        String told = "best(" + side + ", " + shots + ", ";
        Due.is(told + "0)", above, x.best(side, shots, 0));
        Due.is(told + "1)", below, x.best(side, shots, 1));
        Due.is(told + "2)", choice, x.best(side, shots, 2));
    }

    private static void bestOfNobody() {
        Due.says("how many of the first SIDE STAND in the end, less how many of the other one");
        for (int side = 0; side <= 1; side++) {
            for (int shots = 1; shots <= 3; shots++) {
                best(Due.laid(OPEN), side, shots, 0, 1, NONE);
            }
        }
    }

    private static void bestOfOneSideAlone() {
        Due.says("how many of the first SIDE STAND in the end, less how many of the other one");
        for (int many = 1; many <= 6; many++) {
            for (int side = 0; side <= 1; side++) {
                TinSoldiers x = Due.laid(OPEN);
                for (int one = 0; one < many; one++) {
                    x.soldier(one % 5, side, one);
                }
                best(x, side, 3, many, 1, NONE);
                best(x, 1 - side, 3, -many, 1, NONE);
            }
        }
    }

    private static void bestWithoutPeas() {
        Due.says("if its SIDE has a PEA");
        TinSoldiers x = Due.army("...../...../.....;00", SOLDIER, 0, 0, SOLDIER, 1, 1, SPY, 1, 5);
        best(x, 0, 3, -1, 1, NONE);
        best(x, 1, 3, 1, 1, NONE);
        x = Due.army("...../...../.....;09", SOLDIER, 0, 0, SOLDIER, 1, 1);
        best(x, 0, 1, 0, 1, NONE);
        best(x, 0, 2, -4, 5, NONE);
        best(x, 0, 3, -4, 5, NONE);
    }

    private static void oneToThreeShots() {
        Due.says("BEST for a SIDE, by so many SHOTS (1 to 3)");
        TinSoldiers x = Due.army(OPEN, GUNNER, 0, 0, SOLDIER, 1, 4);
        best(x, 0, 1, 3, 5, 1);
        // 6 tenths of 1, and 4 tenths of -2 tenths.
        best(x, 0, 2, 13, 25, 1);
        // 6 tenths of 1, and 4 tenths of (2 tenths of -1, and 8 tenths of 6 tenths).
        best(x, 0, 3, 89, 125, 1);
    }

    private static void inTurn() {
        Due.says("it shoots first, then the other SIDE, in turn");
        TinSoldiers x = Due.army("...../...../.....;29", SOLDIER, 0, 0, OFFICER, 1, 1);
        best(x, 0, 1, 0, 1, NONE);
        best(x, 1, 1, 4, 5, 6);
        best(x, 0, 2, -4, 5, NONE);
        // Two hits of 8 tenths, if the other one misses by 2 tenths between them.
        best(x, 0, 3, -84, 125, 1);
    }

    private static void lowestTerms() {
        Due.says("what = 0 the MEAN above, 1 below, in lowest terms, 2 the first SHOT (NONE: passing).");
        TinSoldiers x = Due.army(OPEN, GUNNER, 0, 0, SOLDIER, 1, 1);
        best(x, 0, 1, 9, 10, 1);
        x = Due.army(OPEN, SOLDIER, 0, 0, SOLDIER, 1, 1, SOLDIER, 1, 10);
        best(x, 0, 1, -1, 5, 1);
        x = Due.army("...../...../.....;90", GUNNER, 0, 0, SOLDIER, 1, 1);
        best(x, 0, 3, 99, 100, 1);
        x = Due.army(OPEN, GUNNER, 0, 0, GUNNER, 1, 1);
        // 9 tenths, a tenth of (-9 tenths, and a tenth of 9 tenths).
        best(x, 0, 3, 819, 1000, 1);
        x = Due.army(OPEN, SOLDIER, 0, 0, OFFICER, 1, 1);
        best(x, 0, 1, 0, 1, NONE);
    }

    private static void passingIfAsGood() {
        Due.says("but passing, if that is as good");
        TinSoldiers x = Due.army(OPEN, SOLDIER, 0, 0, OFFICER, 1, 1);
        best(x, 0, 1, 0, 1, NONE);
        x = Due.army(OPEN, SOLDIER, 0, 0, BENT, 1, 1);
        best(x, 0, 1, 0, 1, NONE);
        x = Due.army(OPEN, SOLDIER, 0, 0, SOLDIER, 1, 7);
        best(x, 0, 3, 0, 1, NONE);
        x.move(1, 1);
        best(x, 0, 1, 4, 5, 1);
    }

    private static void ofLikeOnesTheLeast() {
        Due.says("the first SHOT: 6 times who shoots, and at whom, together: of like ones the least");
        TinSoldiers x = Due.army(OPEN, SOLDIER, 0, 7, SOLDIER, 0, 6, SOLDIER, 1, 1, SOLDIER, 1, 2);
        best(x, 0, 1, 4, 5, 2);
        best(x, 1, 1, 4, 5, 12);
        x.move(0, 14);
        best(x, 0, 1, 4, 5, 8);
        x.move(2, 10);
        best(x, 0, 1, 4, 5, 8);
        x.move(2, 4);
        best(x, 0, 1, 4, 5, 9);
    }

    private static void leastAndLargestShot() {
        Due.says("6 times who shoots, and at whom, together");
        TinSoldiers x = Due.army(OPEN, SOLDIER, 0, 0, SOLDIER, 1, 1);
        best(x, 0, 1, 4, 5, 1);
        best(x, 1, 1, 4, 5, 6);
        x = Due.army(OPEN, SOLDIER, 0, 0, SOLDIER, 0, 1, SOLDIER, 0, 2, SOLDIER, 0, 3, SOLDIER, 0, 9, SOLDIER, 1, 14);
        best(x, 1, 1, -16, 5, 34);
        best(x, 0, 1, 24, 5, 29);
    }

    private static void leastForTheOtherSide() {
        Due.says("is most on the MEAN (the other SIDE: least), by TENTHS");
        // The other side has an officer and a soldier to shoot at: it takes the one that falls.
        TinSoldiers x = Due.army("...../...../.....;01", OFFICER, 0, 0, SOLDIER, 0, 2, SOLDIER, 1, 1);
        best(x, 0, 2, 1, 5, NONE);
        // It would pass if shooting made its own side fall.
        x = Due.army("...../...../.....;01", BENT, 0, 1, SOLDIER, 1, 0, SOLDIER, 1, 2);
        best(x, 0, 2, -1, 1, NONE);
    }

    private static void whoFellAlready() {
        Due.says("how many of the first SIDE STAND in the end");
        TinSoldiers x = Due.army(OPEN, SOLDIER, 0, 0, SOLDIER, 1, 1, SOLDIER, 1, 2);
        x.shoot(0, 1, true);
        // The way is free past the fallen one, two cells far.
        best(x, 0, 1, 3, 5, 2);
        best(x, 1, 1, 3, 5, 12);
        x.shoot(0, 2, true);
        best(x, 0, 3, 1, 1, NONE);
        best(x, 1, 3, -1, 1, NONE);
    }

    private static void whoWasHitAlready() {
        Due.says("only as it is HIT for the second time (since it STOOD up)");
        for (int kind : new int[] {OFFICER, BENT}) {
            TinSoldiers x = Due.army(OPEN, SOLDIER, 0, 0, kind, 1, 1);
            x.shoot(0, 1, true);
            best(x, 0, 1, 4, 5, 1);
            x.dinner();
            best(x, 0, 1, 0, 1, NONE);
        }
    }

    private static void peaThatFliesOn() {
        Due.says("the pea flies on the same way");
        TinSoldiers x = Due.army(OPEN, SOLDIER, 0, 0, BENT, 1, 1, SOLDIER, 1, 4);
        best(x, 0, 1, -1, 5, 1);
        x = Due.army(OPEN, SOLDIER, 0, 0, BENT, 1, 1, SOLDIER, 0, 4);
        best(x, 0, 1, 1, 1, NONE);
    }

    private static void spiesInBest() {
        Due.says("but is of the other SIDE from then on");
        TinSoldiers x = Due.army(OPEN, SOLDIER, 0, 0, SPY, 1, 1);
        best(x, 0, 1, 8, 5, 1);
        // If it went over nobody is left who shoots; if not it shoots by 8 tenths.
        best(x, 0, 2, 36, 25, 1);
        // One that went over shoots for its new side, with that side's peas: 8 tenths of (1 and 8 tenths),
        // and 2 tenths of (8 tenths of 1, and 2 tenths of -1).
        x = Due.army("...../...../.....;20", SOLDIER, 0, 0, SPY, 1, 1, SOLDIER, 1, 2);
        best(x, 0, 3, 39, 25, 1);
        x = Due.army("...../...../.....;10", SOLDIER, 0, 0, SPY, 1, 1, SOLDIER, 1, 2);
        best(x, 0, 3, 3, 5, NONE);
    }

    private static void bestTakesPeas() {
        Due.says("A SHOT takes a PEA of its SIDE.");
        TinSoldiers x = Due.army("...../...../.....;10", SOLDIER, 0, 0, SOLDIER, 1, 1);
        best(x, 0, 3, 4, 5, NONE);
        x = Due.army("...../...../.....;20", SOLDIER, 0, 0, SOLDIER, 1, 1);
        best(x, 0, 3, 24, 25, 1);
        x = Due.army("...../...../.....;01", SOLDIER, 0, 0, SOLDIER, 1, 1);
        best(x, 1, 3, 4, 5, NONE);
    }

    private static void bestByCover() {
        Due.says("2 less if there is COVER on one of the CELLS around the other one (eight, or fewer); 1 at least.");
        TinSoldiers x = Due.army("...../....#/.....;99", SOLDIER, 0, 0, SOLDIER, 1, 4);
        best(x, 0, 1, 1, 10, 1);
        best(x, 1, 1, 1, 5, 6);
    }

    private static void bestIgnoresTreaty() {
        Due.says("(no TREATY counts)");
        TinSoldiers x = Due.army(OPEN, GUNNER, 0, 0, SOLDIER, 1, 6);
        Due.sign(x, "dngt");
        best(x, 0, 1, 9, 10, 1);
        Due.is("no breach by it", NONE, x.count(8));
    }

    private static void bestChangesNothingElse() {
        Due.says("13 best()");
        TinSoldiers x = Due.army(OPEN, GUNNER, 0, 0, BENT, 1, 1, SPY, 1, 2, SPY, 0, 5, OFFICER, 1, 6);
        Due.sign(x, "t");
        x.shoot(1, 0, false);
        long before = x.digest();
        for (int shots = 1; shots <= 3; shots++) {
            x.best(0, shots, 0);
            x.best(1, shots, 2);
        }
        Due.is("six more were done, and nothing else", before + 6, x.digest());
        x.watch(0);
        x.watch(1);
        Due.is("two more watches were done, and nothing else", before + 6 + 2 * 31, x.digest());
        x.shoot(0, 1, false);
        Due.is("whose the last one was stays", NONE, x.count(8));
    }
}
