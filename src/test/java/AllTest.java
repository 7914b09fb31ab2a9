/** Promises 22 to 25: image, restore, count, digest. */
public final class AllTest {
    private static final String OPEN = "...../...../.....;99";

    public static void main(String[] args) {
        images();
        restoredTreatyAndTurns();
        imagesRefused();
        counts();
        digests();
        Due.end();
    }

    private static void images() {
        TinSoldiers x = Due.laid(OPEN);
        x.soldier(0, 0, 0);
        x.soldier(1, 1, 1);
        x.soldier(2, 1, 5);
        Due.sign(x, "n");
        x.tally(1);
        x.tally(2);
        x.shoot(0, 1, true);
        Due.is("image()", 1, x.image());
        long then = x.digest();
        x.shoot(0, 1, true);
        x.shoot(0, 2, true);
        x.move(1, 14);
        x.soldier(3, 0, 13);
        x.forget();
        x.tally(6);
        Due.sign(x, "od");
        Due.is("restore()", 1, x.restore());
        Due.is("all is as it was", then, x.digest());
        Due.is("one that came since is gone", TinSoldiers.UNKNOWN, x.about(3, 0));
        Due.is("its cell is free", 3, x.soldier(4, 1, 13));
        Due.is("its kind is its own", 4, x.about(3, 0));
        x.dinner();
        Due.is("restore() again", 1, x.restore());
        Due.is("all is as it was again", then, x.digest());
        Due.is("ways", 1, x.fits());
        x.shoot(0, 1, true);
        Due.is("the latest image()", 2, x.image());
        x.shoot(0, 2, true);
        Due.is("restore() of the latest", 2, x.restore());
        Due.is("who fell stays so", 0, x.about(1, 3));
    }

    private static void restoredTreatyAndTurns() {
        TinSoldiers x = Due.laid(OPEN);
        x.soldier(0, 0, 0);
        x.soldier(0, 1, 1);
        Due.sign(x, "t");
        x.shoot(0, 1, false);
        x.image();
        x.shoot(1, 0, false);
        x.restore();
        x.shoot(1, 0, false);
        Due.is("in turn", TinSoldiers.NONE, x.count(8));
        x.restore();
        x.shoot(0, 1, false);
        Due.is("behind its own", 2, x.count(8));
        x.image();
        Due.sign(x, "g");
        Due.is("no breach", TinSoldiers.NONE, x.count(8));
        x.restore();
        Due.is("the breach is back", 2, x.count(8));
        x.letter('x');
        x.watch(0);
        x.best(0, 1, 0);
        x.restore();
        Due.is("the page is not kept", 1, x.count(10));
        Due.is("watch() is not kept", 1, x.count(12));
        Due.is("best() is not kept", 1, x.count(13));
    }

    private static void imagesRefused() {
        TinSoldiers x = new TinSoldiers();
        Due.is("image() without a carpet", TinSoldiers.STATE, x.image());
        x = Due.laid(OPEN);
        Due.is("restore() without an image", TinSoldiers.STATE, x.restore());
        Due.is("image()", 0, x.image());
        Due.write(x, OPEN);
        x.carpet();
        Due.refused("restore() on another carpet", x, x.digest(), TinSoldiers.STATE, x.restore());
        Due.is("image() of that", 0, x.image());
        Due.is("restore() of that", 0, x.restore());
    }

    private static void counts() {
        TinSoldiers x = Due.laid("#..../...../.....;87");
        x.soldier(0, 0, 1);
        x.soldier(0, 1, 2);
        x.soldier(0, 1, 3);
        x.soldier(0, 1, 4);
        Due.sign(x, "nod");
        x.shoot(0, 1, true);
        x.shoot(2, 0, false);
        x.tally(2);
        Due.write(x, "abcd");
        x.watch(0);
        x.watch(1);
        x.best(0, 1, 0);
        int[] want = {14, 7, 6, 4, 1, 2, 2, 3, 1, 1, 4, 1, 2, 1};
        for (int what = 0; what < want.length; what++) {
            Due.is("count(" + what + ")", want[what], x.count(what));
        }
        Due.is("count(14)", TinSoldiers.OUTSIDE, x.count(14));
        Due.is("count(-1)", TinSoldiers.OUTSIDE, x.count(-1));
    }

    private static long digestByCalls(TinSoldiers x, String page) {
        long h = 839;
        if (x.cell(0, 0) != TinSoldiers.UNKNOWN) {
            for (int cell = 0; cell < 15; cell++) {
                for (int what = 0; what <= 2; what++) {
                    h = 31 * h + x.cell(cell, what);
                }
            }
            h = 31 * h + x.fits();
        }
        for (int one = 0; one < x.count(3); one++) {
            for (int what = 0; what <= 5; what++) {
                h = 31 * h + x.about(one, what);
            }
            for (int other = 0; other < x.count(3); other++) {
                h = 31 * h + x.tenths(one, other);
            }
        }
        for (int place = 0; place < page.length(); place++) {
            h = 31 * h + page.charAt(place);
        }
        for (int what = 0; what <= 13; what++) {
            h = 31 * h + x.count(what);
        }
        return h;
    }

    private static void digests() {
        TinSoldiers x = new TinSoldiers();
        Due.is("digest() of a new one", digestByCalls(x, ""), x.digest());
        Due.write(x, "a~");
        Due.is("digest() with a page", digestByCalls(x, "a~"), x.digest());
        x = Due.laid(".#.../...../....#;97");
        Due.is("digest() with a carpet", digestByCalls(x, ""), x.digest());
        x.soldier(3, 0, 0);
        x.soldier(2, 1, 5);
        x.soldier(4, 1, 6);
        x.tally(1);
        x.tally(2);
        Due.write(x, "odd");
        Due.is("digest() with soldiers", digestByCalls(x, "odd"), x.digest());
        x.shoot(0, 2, true);
        Due.is("digest() behind a shot", digestByCalls(x, "odd"), x.digest());
        Due.is("digest() changes nothing", x.digest(), x.digest());
    }
}
