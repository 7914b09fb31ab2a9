/** Promises 15 and 16: watch, best. */
public final class WouldBeTest {
    private static final String OPEN = "...../...../.....;99";
    private static final int SOLDIER = 0, OFFICER = 1, SPY = 2, GUNNER = 3, BENT = 4;

    public static void main(String[] args) {
        watches();
        watchesRefused();
        oneShot();
        byTurns();
        misses();
        likeShots();
        noTreatyCounts();
        bestsRefused();
        Due.end();
    }

    private static void watch(String carpet, int few, int which) {
        TinSoldiers x = Due.laid(carpet);
        Due.is(carpet + ": watch(0)", few, x.watch(0));
        Due.is(carpet + ": watch(1)", which, x.watch(1));
        Due.is(carpet + ": done", 2, x.count(12));
    }

    private static void watches() {
        watch("#####/#####/#####;00", 0, 0);
        watch("#####/##.##/#####;00", 1, 1 << 7);
        watch("#####/...../#####;00", 1, 1 << 5);
        watch(".#.#./#####/.#.#.;00", 6, 1 | 1 << 2 | 1 << 4 | 1 << 10 | 1 << 12 | 1 << 14);
        watch("#.#.#/.#.#./#.#.#;00", 2, 1 << 1 | 1 << 3);
        watch(OPEN, 2, 1 << 2 | 1 << 7);
    }

    private static void watchesRefused() {
        TinSoldiers x = Due.laid(OPEN);
        Due.is("watch(2)", TinSoldiers.OUTSIDE, x.watch(2));
        Due.is("watch(-1)", TinSoldiers.OUTSIDE, x.watch(-1));
        for (int done = 0; done < 20; done++) {
            Due.is("watch number " + done, 2, x.watch(0));
        }
        Due.refused("watch number 20", x, x.digest(), TinSoldiers.STATE, x.watch(0));
        Due.is("watch(2), done 20 times", TinSoldiers.OUTSIDE, x.watch(2));
        Due.is("done", 20, x.count(12));
        Due.write(x, OPEN);
        x.carpet();
        Due.is("on another carpet", TinSoldiers.STATE, x.watch(0));
        Due.is("watch(2) without a carpet", TinSoldiers.OUTSIDE, new TinSoldiers().watch(2));
    }

    private static void best(TinSoldiers x, int side, int shots, int above, int below, int choice) {
        String told = "best(" + side + ", " + shots + ", ";
        long before = x.digest();
        int done = x.count(13);
        Due.is(told + "0)", above, x.best(side, shots, 0));
        Due.is(told + "1)", below, x.best(side, shots, 1));
        Due.is(told + "2)", choice, x.best(side, shots, 2));
        Due.is("best() was done", done + 3, x.count(13));
        Due.is("best() changes only how often it was done", before + 3, x.digest());
    }

    private static void oneShot() {
        TinSoldiers x = Due.laid(OPEN);
        best(x, 0, 1, 0, 1, TinSoldiers.NONE);
        x.soldier(SOLDIER, 0, 0);
        x.soldier(SOLDIER, 1, 1);
        best(x, 0, 1, 4, 5, 1);
        best(x, 1, 1, 4, 5, 6);
        x.soldier(OFFICER, 1, 5);
        best(x, 0, 1, -1, 5, 1);
        x.soldier(SPY, 1, 6);
        // A spy that goes over is worth two: -2 and 8 tenths of 2.
        best(x, 0, 1, -2, 5, 3);
        best(Due.laid("#####/#####/#####;99"), 1, 3, 0, 1, TinSoldiers.NONE);
    }

    private static void byTurns() {
        TinSoldiers x = Due.laid(OPEN);
        x.soldier(SOLDIER, 0, 0);
        x.soldier(SOLDIER, 1, 1);
        // By 8 tenths 1, or by 2 tenths the other one shoots: -8 tenths.
        best(x, 0, 2, 16, 25, 1);
        // Behind a miss of both by 4 hundredths, another shot: 8 tenths; behind a hit of the other: -1.
        best(x, 0, 3, 84, 125, 1);
        x = Due.laid("...../...../.....;19");
        x.soldier(SOLDIER, 0, 0);
        x.soldier(OFFICER, 1, 1);
        // Its only pea can't make the officer fall: it passes, and may shoot in its next turn as well.
        best(x, 0, 1, 0, 1, TinSoldiers.NONE);
        best(x, 0, 3, -4, 5, TinSoldiers.NONE);
        x = Due.laid("...../...../.....;29");
        x.soldier(SOLDIER, 0, 0);
        x.soldier(OFFICER, 1, 4);
        // Two hits of 2 tenths, if the other one misses by 8 tenths between them: -2 tenths and 32 thousandths.
        best(x, 0, 3, -21, 125, 1);
    }

    private static void misses() {
        TinSoldiers x = Due.laid("...../...../.....;10");
        x.soldier(SOLDIER, 0, 0);
        x.soldier(SOLDIER, 1, 1);
        // A miss takes its only pea: no second shot for it behind the other one's turn.
        best(x, 0, 3, 4, 5, TinSoldiers.NONE);
        best(x, 0, 1, 4, 5, 1);
        best(x, 1, 2, -4, 5, TinSoldiers.NONE);
        x = Due.laid("...../...../.....;20");
        x.soldier(SOLDIER, 0, 0);
        x.soldier(SOLDIER, 1, 1);
        best(x, 0, 3, 24, 25, 1);
    }

    private static void likeShots() {
        TinSoldiers x = Due.laid(OPEN);
        x.soldier(SOLDIER, 1, 7);
        x.soldier(SOLDIER, 0, 6);
        x.soldier(SOLDIER, 0, 8);
        best(x, 1, 1, -1, 5, 1);
        best(x, 0, 1, 9, 5, 6);
        x = Due.laid(OPEN);
        x.soldier(GUNNER, 0, 0);
        x.soldier(BENT, 1, 1);
        x.soldier(SOLDIER, 0, 2);
        // The pea would fly on to its own side: it passes, and so does nobody else know better.
        best(x, 0, 1, 1, 1, TinSoldiers.NONE);
        x = Due.laid(OPEN);
        x.soldier(SOLDIER, 0, 0);
        x.soldier(BENT, 1, 1);
        x.soldier(SPY, 1, 2);
        best(x, 0, 1, 3, 5, 1);
    }

    private static void noTreatyCounts() {
        TinSoldiers x = Due.laid(OPEN);
        x.soldier(GUNNER, 0, 0);
        x.soldier(SOLDIER, 1, 1);
        Due.sign(x, "ng");
        best(x, 0, 1, 9, 10, 1);
        Due.is("no breach by what would be", TinSoldiers.NONE, x.count(8));
    }

    private static void bestsRefused() {
        TinSoldiers x = Due.laid(OPEN);
        Due.is("best(2, 1, 0)", TinSoldiers.OUTSIDE, x.best(2, 1, 0));
        Due.is("best(-1, 1, 0)", TinSoldiers.OUTSIDE, x.best(-1, 1, 0));
        Due.is("best(0, 0, 0)", TinSoldiers.OUTSIDE, x.best(0, 0, 0));
        Due.is("best(0, 4, 0)", TinSoldiers.OUTSIDE, x.best(0, 4, 0));
        Due.is("best(0, 1, 3)", TinSoldiers.OUTSIDE, x.best(0, 1, 3));
        Due.is("best(0, 1, -1)", TinSoldiers.OUTSIDE, x.best(0, 1, -1));
        Due.is("refused ones are not done", 0, x.count(13));
        for (int done = 0; done < 20; done++) {
            Due.is("best number " + done, 0, x.best(0, 1, 0));
        }
        Due.refused("best number 20", x, x.digest(), TinSoldiers.STATE, x.best(0, 1, 0));
        Due.is("best(0, 4, 0), done 20 times", TinSoldiers.OUTSIDE, x.best(0, 4, 0));
        Due.is("best(0, 4, 0) without a carpet", TinSoldiers.OUTSIDE, new TinSoldiers().best(0, 4, 0));
    }
}
