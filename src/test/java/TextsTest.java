/** Promises 1 to 7: a new object, letter, blank, fault, carpet, treaty, cell. */
public final class TextsTest {
    private static final String OPEN = "...../...../.....;99";

    public static void main(String[] args) {
        newObject();
        letters();
        faultsOfCarpet();
        faultsOfTreaty();
        carpets();
        treaties();
        cells();
        Due.end();
    }

    private static void newObject() {
        TinSoldiers x = new TinSoldiers();
        for (int what = 0; what <= 13; what++) {
            Due.is("new: count(" + what + ")", what == 8 ? TinSoldiers.NONE : 0, x.count(what));
        }
        Due.is("new: cell(0, 0)", TinSoldiers.UNKNOWN, x.cell(0, 0));
        Due.is("new: soldier(0, 0, 0)", TinSoldiers.UNKNOWN, x.soldier(0, 0, 0));
        Due.is("new: soldier(5, 0, 0)", TinSoldiers.OUTSIDE, x.soldier(5, 0, 0));
        Due.is("new: about(0, 0)", TinSoldiers.UNKNOWN, x.about(0, 0));
        Due.is("new: move(0, 0)", TinSoldiers.UNKNOWN, x.move(0, 0));
        Due.is("new: shoot(0, 1, true)", TinSoldiers.UNKNOWN, x.shoot(0, 1, true));
        Due.is("new: dinner()", 0, x.dinner());
        Due.is("new: watch(0)", TinSoldiers.STATE, x.watch(0));
        Due.is("new: best(0, 1, 0)", TinSoldiers.STATE, x.best(0, 1, 0));
        Due.is("new: fits()", TinSoldiers.STATE, x.fits());
        Due.is("new: last(0)", TinSoldiers.UNKNOWN, x.last(0));
        Due.is("new: afternoons(1, 1, 0)", TinSoldiers.STATE, x.afternoons(1, 1, 0));
        Due.is("new: image()", TinSoldiers.STATE, x.image());
        Due.is("new: restore()", TinSoldiers.STATE, x.restore());
        Due.is("new: fault(0)", 0, x.fault(0));
        Due.is("new: blank()", 0, x.blank());
    }

    private static void letters() {
        TinSoldiers x = new TinSoldiers();
        Due.is("letter(31)", TinSoldiers.OUTSIDE, x.letter(31));
        Due.is("letter(127)", TinSoldiers.OUTSIDE, x.letter(127));
        Due.is("letter(-1)", TinSoldiers.OUTSIDE, x.letter(-1));
        Due.is("letter(65536 + 46)", TinSoldiers.OUTSIDE, x.letter(65536 + 46));
        Due.is("letter(32)", 1, x.letter(32));
        Due.is("letter(126)", 2, x.letter(126));
        for (int many = 3; many <= 22; many++) {
            Due.is("letter(46), number " + many, many, x.letter(46));
        }
        Due.refused("letter(46), number 23", x, x.digest(), TinSoldiers.FULL, x.letter(46));
        Due.is("letter(31) on a full page", TinSoldiers.OUTSIDE, x.letter(31));
        Due.is("blank()", 22, x.blank());
        Due.is("blank() again", 0, x.blank());
        Due.is("letter(46) on a blank page", 1, x.letter(46));
    }

    private static void fault(String text, int sort, int want) {
        TinSoldiers x = new TinSoldiers();
        Due.write(x, text);
        Due.is("fault(" + sort + ") of '" + text + "'", want, x.fault(sort));
        Due.is("letters behind fault(" + sort + ")", text.length(), x.count(10));
    }

    private static void faultsOfCarpet() {
        fault("", 0, 0);
        fault(OPEN, 0, 20);
        fault("#####/#####/#####;00", 0, 20);
        for (int place = 0; place < OPEN.length(); place++) {
            fault(OPEN.substring(0, place), 0, place);
            fault(OPEN.substring(0, place) + "x" + OPEN.substring(place + 1), 0, place);
        }
        fault(OPEN + "0", 0, 20);
        fault(OPEN + "..", 0, 20);
        fault("./", 0, 1);
        fault("......", 0, 5);
        fault("...../.....;", 0, 11);
        fault("...../...../...../", 0, 17);
        fault("...../...../.....;/", 0, 18);
        fault("...../...../.....;0:", 0, 19);
        Due.is("fault(2)", TinSoldiers.OUTSIDE, new TinSoldiers().fault(2));
        Due.is("fault(-1)", TinSoldiers.OUTSIDE, new TinSoldiers().fault(-1));
    }

    private static void faultsOfTreaty() {
        fault("", 1, 0);
        fault("o", 1, 1);
        fault("gtnd", 1, 4);
        fault("gtndo", 1, 4);
        fault("oo", 1, 1);
        fault("odo", 1, 2);
        fault("ox", 1, 1);
        fault("O", 1, 0);
        fault(" ", 1, 0);
    }

    private static void carpets() {
        TinSoldiers x = new TinSoldiers();
        Due.refused("carpet() of nothing", x, x.digest(), TinSoldiers.STATE, x.carpet());
        Due.write(x, OPEN.substring(0, 19));
        Due.refused("carpet() of 19 letters", x, x.digest(), TinSoldiers.STATE, x.carpet());
        x.letter('9');
        x.letter('9');
        Due.refused("carpet() of 21 letters", x, x.digest(), TinSoldiers.STATE, x.carpet());
        x.blank();
        Due.write(x, "#..../.#.../..#..;09");
        Due.is("carpet()", 12, x.carpet());
        Due.is("letters behind carpet()", 0, x.count(10));
        Due.is("open cells", 12, x.count(0));
        Due.is("peas of side 0", 0, x.count(1));
        Due.is("peas of side 1", 9, x.count(2));
        Due.is("carpets read", 1, x.count(11));
        anotherCarpet();
    }

    private static void anotherCarpet() {
        TinSoldiers x = Due.laid(OPEN);
        x.soldier(0, 0, 0);
        x.soldier(0, 1, 1);
        Due.sign(x, "n");
        x.tally(1);
        x.shoot(0, 1, true);
        Due.is("breach", 1, x.count(8));
        x.watch(0);
        x.best(0, 1, 0);
        x.image();
        Due.write(x, "...../...../....#;12");
        Due.is("another carpet()", 14, x.carpet());
        int[] want = {14, 1, 2, 0, 0, 0, 0, 0, TinSoldiers.NONE, 0, 0, 2, 1, 1};
        for (int what = 0; what < want.length; what++) {
            Due.is("another carpet: count(" + what + ")", want[what], x.count(what));
        }
        Due.is("another carpet: restore()", TinSoldiers.STATE, x.restore());
        Due.is("another carpet: cell(0, 1)", TinSoldiers.NONE, x.cell(0, 1));
        x.soldier(0, 0, 0);
        x.soldier(1, 1, 1);
        Due.sign(x, "t");
        x.shoot(0, 1, true);
        Due.is("nobody shot yet on another carpet", TinSoldiers.NONE, x.count(8));
        nothingOfTheOldCarpet();
    }

    private static void nothingOfTheOldCarpet() {
        TinSoldiers x = Due.laid("...#./...../.....;99");
        x.soldier(0, 0, 0);
        x.soldier(0, 1, 4);
        x.soldier(0, 1, 1);
        x.shoot(0, 2, true);
        Due.is("watch(1) on the old carpet", 1 << 5 | 1 << 8, x.watch(1));
        Due.write(x, OPEN);
        x.carpet();
        for (int cell = 0; cell < 3; cell++) {
            x.soldier(0, cell % 2, cell);
            Due.is("it was not hit yet", 0, x.about(cell, 4));
            Due.is("it stands", 1, x.about(cell, 3));
        }
        x.move(1, 9);
        x.move(0, 7);
        Due.is("no cover is around any more", 6, x.tenths(0, 1));
        Due.is("watch(1) on another carpet", 1 << 2 | 1 << 7, x.watch(1));
    }

    private static void treaties() {
        TinSoldiers x = new TinSoldiers();
        Due.write(x, "od");
        Due.refused("treaty() without a carpet", x, x.digest(), TinSoldiers.STATE, x.treaty());
        x = Due.laid(OPEN);
        Due.refused("treaty() of nothing", x, x.digest(), TinSoldiers.STATE, x.treaty());
        Due.write(x, "odd");
        Due.refused("treaty() of odd", x, x.digest(), TinSoldiers.STATE, x.treaty());
        x.blank();
        Due.write(x, "odntg");
        Due.refused("treaty() of five letters", x, x.digest(), TinSoldiers.STATE, x.treaty());
        x.blank();
        Due.sign(x, "gnt");
        Due.is("letters behind treaty()", 0, x.count(10));
        Due.is("letters of the treaty", 3, x.count(7));
        Due.sign(x, "o");
        Due.is("letters of another treaty", 1, x.count(7));
    }

    private static void cells() {
        TinSoldiers x = Due.laid(".#.../...../#....;11");
        x.soldier(0, 0, 2);
        x.soldier(0, 1, 3);
        Due.is("cell(0, 0)", 1, x.cell(0, 0));
        Due.is("cell(1, 0)", 0, x.cell(1, 0));
        Due.is("cell(2, 1)", 0, x.cell(2, 1));
        Due.is("cell(3, 1)", 1, x.cell(3, 1));
        Due.is("cell(4, 1)", TinSoldiers.NONE, x.cell(4, 1));
        Due.is("cell(0, 2)", 1 | 1 << 5 | 1 << 6 | 1 << 12, x.cell(0, 2));
        Due.is("cell(1, 2)", 0, x.cell(1, 2));
        int from4 = 1 << 2 | 1 << 3 | 1 << 4 | 1 << 8 | 1 << 12 | 1 << 9 | 1 << 14;
        Due.is("cell(4, 2), whoever stands there", from4, x.cell(4, 2));
        x.shoot(0, 1, true);
        Due.is("cell(3, 1), fallen", 1, x.cell(3, 1));
        Due.is("cell(15, 0)", TinSoldiers.UNKNOWN, x.cell(15, 0));
        Due.is("cell(-1, 0)", TinSoldiers.UNKNOWN, x.cell(-1, 0));
        Due.is("cell(-1, 3)", TinSoldiers.UNKNOWN, x.cell(-1, 3));
        Due.is("cell(0, 3)", TinSoldiers.OUTSIDE, x.cell(0, 3));
        Due.is("cell(0, -1)", TinSoldiers.OUTSIDE, x.cell(0, -1));
    }
}
