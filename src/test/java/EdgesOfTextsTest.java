/** Each sentence about texts that names an edge: promises 1 to 7, and the terms they rest on. */
public final class EdgesOfTextsTest {
    private static final int NONE = -1, UNKNOWN = -101, OUTSIDE = -102, STATE = -103, FULL = -104;
    private static final String OPEN = "...../...../.....;99";

    public static void main(String[] args) {
        nothingAtFirst();
        codesOfLetters();
        fullPage();
        codeAheadOfFull();
        blankPages();
        sortsOfFault();
        faultOfEmptyPage();
        threeRowsOfFive();
        signsOfCarpet();
        peasOfEachSide();
        lettersBehindCarpet();
        oneToFourLetters();
        unlikeLetters();
        onlyTheseLetters();
        carpetOfEachLength();
        carpetOfWrongSign();
        openCells();
        pageIsEmptyBehindCarpet();
        anotherCarpetTakesAll();
        anotherCarpetTakesCover();
        anotherCarpetTakesWhoseTheLastWas();
        carpetsRead();
        treatyOfEachLength();
        treatyWithoutCarpet();
        treatyInsteadOfAnother();
        pageIsEmptyBehindTreaty();
        cellsFrom0To14();
        whatOfCell();
        unknownAheadOfOutside();
        whoIsThere();
        seenFromCover();
        seenItself();
        seenAlongLines();
        seenPastCover();
        seenWhoeverStands();
        Due.end();
    }

    private static TinSoldiers paged(String text) {
        TinSoldiers x = new TinSoldiers();
        Due.write(x, text);
        return x;
    }

    private static void nothingAtFirst() {
        Due.says("`TinSoldiers()`: No CARPET.");
        TinSoldiers x = new TinSoldiers();
        for (int what = 0; what <= 13; what++) {
            Due.is("count(" + what + ")", what == 8 ? NONE : 0, x.count(what));
        }
        for (int cell = 0; cell < 15; cell++) {
            Due.is("cell(" + cell + ", 0)", UNKNOWN, x.cell(cell, 0));
            Due.is("soldier(0, 0, " + cell + ")", UNKNOWN, x.soldier(0, 0, cell));
        }
        Due.is("blank()", 0, x.blank());
        Due.is("forget()", 0, x.forget());
        Due.is("dinner()", 0, x.dinner());
        Due.is("fits()", STATE, x.fits());
        Due.is("image()", STATE, x.image());
        Due.is("restore()", STATE, x.restore());
    }

    private static void codesOfLetters() {
        Due.says("OUTSIDE: code (32 to 126)");
        for (int code = -300; code <= 700; code++) {
            TinSoldiers x = new TinSoldiers();
            boolean taken = code >= 32 && code <= 126;
            Due.is("letter(" + code + ")", taken ? 1 : OUTSIDE, x.letter(code));
            Due.is("letters behind letter(" + code + ")", taken ? 1 : 0, x.count(10));
        }
        for (int code : Due.FAR) {
            Due.is("letter(" + code + ")", OUTSIDE, new TinSoldiers().letter(code));
        }
    }

    private static void fullPage() {
        Due.says("FULL: above 22.");
        TinSoldiers x = new TinSoldiers();
        for (int round = 0; round < 2; round++) {
            for (int many = 1; many <= 22; many++) {
                Due.is("letter number " + many, many, x.letter(31 + many));
            }
            Due.refused("letter number 23", x, x.digest(), FULL, x.letter(46));
            Due.is("letters", 22, x.count(10));
            Due.is("blank()", 22, x.blank());
        }
    }

    private static void codeAheadOfFull() {
        Due.says("Refusals, of several the first as told by each call");
        TinSoldiers x = paged("......................");
        Due.is("letter(31) on a full page", OUTSIDE, x.letter(31));
        Due.is("letter(127) on a full page", OUTSIDE, x.letter(127));
        Due.is("letter(32) on a full page", FULL, x.letter(32));
        Due.is("letter(126) on a full page", FULL, x.letter(126));
    }

    private static void blankPages() {
        Due.says("THE PAGE is empty: how many letters it had.");
        for (int many = 0; many <= 22; many++) {
            TinSoldiers x = paged("......................".substring(0, many));
            Due.is("blank() of " + many, many, x.blank());
            Due.is("blank() again", 0, x.blank());
            Due.is("letters", 0, x.count(10));
            Due.is("digest() as of a new one", new TinSoldiers().digest(), x.digest());
        }
    }

    private static void sortsOfFault() {
        Due.says("CARPET (sort 0), TREATY (1)");
        TinSoldiers x = paged("o.");
        Due.is("fault(0)", 0, x.fault(0));
        Due.is("fault(1)", 1, x.fault(1));
        Due.is("fault(-1)", OUTSIDE, x.fault(-1));
        Due.is("fault(2)", OUTSIDE, x.fault(2));
        for (int sort : Due.FAR) {
            Due.is("fault(" + sort + ")", OUTSIDE, x.fault(sort));
        }
        Due.is("the page stays", 2, x.count(10));
    }

    private static void faultOfEmptyPage() {
        Due.says("how many letters it has, if there is none.");
        Due.is("fault(0) of nothing", 0, new TinSoldiers().fault(0));
        Due.is("fault(1) of nothing", 0, new TinSoldiers().fault(1));
        for (int many = 1; many <= 20; many++) {
            Due.is("fault(0) of " + many, many, paged(OPEN.substring(0, many)).fault(0));
        }
        for (int many = 1; many <= 4; many++) {
            Due.is("fault(1) of " + many, many, paged("gtno".substring(0, many)).fault(1));
        }
    }

    private static void faultAndCarpet(String text, int fault) {
        TinSoldiers x = paged(text);
        Due.is("fault(0) of '" + text + "'", fault, x.fault(0));
        Due.refused("carpet() of '" + text + "'", x, x.digest(), STATE, x.carpet());
    }

    private static void threeRowsOfFive() {
        Due.says("three rows of five signs with \"/\" between");
        faultAndCarpet("..../...../.....;99", 4);
        faultAndCarpet("....../...../.....;99", 5);
        faultAndCarpet("...../..../.....;99", 10);
        faultAndCarpet("...../....../.....;99", 11);
        faultAndCarpet("...../...../....;99", 16);
        faultAndCarpet("...../...../......;99", 17);
        faultAndCarpet("...../.....;99", 11);
        faultAndCarpet("...../...../...../;99", 17);
        faultAndCarpet("/...../...../.....;99", 0);
        faultAndCarpet("...............;99", 5);
        faultAndCarpet("...../...../.....99", 17);
        faultAndCarpet("...../...../...../...", 17);
    }

    /** What is told for each place of a carpet: S a sign, D a digit, another one itself. */
    private static boolean suits(int place, int code) {
        char told = "SSSSS/SSSSS/SSSSS;DD".charAt(place);
        return told == 'S' ? code == '.' || code == '#' : told == 'D' ? code >= 48 && code <= 57 : code == told;
    }

    /** Every letter at every place, behind those that are fine, and with more behind it. */
    private static void signsOfCarpet() {
        Due.says("The place (from 0) of the first letter of THE PAGE that no CARPET (sort 0), TREATY (1) has there, "
            + "behind those ahead of it");
        String fine = ".#.#./#.#.#/.....;05";
        for (int place = 0; place < 20; place++) {
            for (int code = 32; code <= 126; code++) {
                TinSoldiers x = paged(fine.substring(0, place) + (char) code);
                int want = suits(place, code) ? place + 1 : place;
                Due.is("fault(0), letter " + code + " at " + place, want, x.fault(0));
                Due.write(x, fine.substring(place + 1));
                want = suits(place, code) ? 20 : place;
                Due.is("fault(0), all, letter " + code + " at " + place, want, x.fault(0));
            }
        }
        Due.is("of two the first", 3, paged("...x.x").fault(0));
    }

    private static void peasOfEachSide() {
        Due.says("then \";\" and two digits, PEAS of SIDE 0, of SIDE 1 (0 to 9 each)");
        for (int peas = 0; peas <= 99; peas++) {
            TinSoldiers x = Due.laid("...../...../.....;" + peas / 10 + peas % 10);
            Due.is("peas of side 0", peas / 10, x.count(1));
            Due.is("peas of side 1", peas % 10, x.count(2));
        }
        for (String around : new String[] {"/0", ":0", "0/", "0:", "-1", "+1", " 1", "1 ", "a0", "0A"}) {
            TinSoldiers x = paged("...../...../.....;" + around);
            Due.refused("carpet() with peas " + around, x, x.digest(), STATE, x.carpet());
        }
        faultAndCarpet("...../...../.....;", 18);
        faultAndCarpet("...../...../.....;9", 19);
        faultAndCarpet("...../...../.....;999", 20);
    }

    private static void lettersBehindCarpet() {
        Due.says("first letter of THE PAGE that no CARPET (sort 0), TREATY (1) has there");
        for (int code = 32; code <= 126; code++) {
            TinSoldiers x = paged(OPEN + (char) code);
            Due.is("fault(0), 21 letters", 20, x.fault(0));
            Due.is("carpet(), 21 letters", STATE, x.carpet());
            x.letter(code);
            Due.is("fault(0), 22 letters", 20, x.fault(0));
            Due.is("carpet(), 22 letters", STATE, x.carpet());
        }
    }

    /** Behind a carpet: the fault of a text as a treaty, and whether it is one. */
    private static void treatyOf(String text, int fault) {
        TinSoldiers x = Due.laid(OPEN);
        Due.write(x, text);
        Due.is("fault(1) of '" + text + "'", fault, x.fault(1));
        boolean is = text.length() > 0 && fault == text.length();
        if (is) {
            Due.is("treaty() of '" + text + "'", text.length(), x.treaty());
            Due.is("letters of '" + text + "'", text.length(), x.count(7));
        } else {
            Due.refused("treaty() of '" + text + "'", x, x.digest(), STATE, x.treaty());
        }
    }

    private static void oneToFourLetters() {
        Due.says("A TREATY is a text: one to four unlike letters");
        treatyOf("", 0);
        treatyOf("g", 1);
        treatyOf("gd", 2);
        treatyOf("gdo", 3);
        treatyOf("gdon", 4);
        treatyOf("gdont", 4);
        treatyOf("odntg", 4);
        treatyOf("odntgodntgodntgodntgod", 4);
        treatyOf("odnt ", 4);
    }

    /** All texts of two and three of the letters. */
    private static void unlikeLetters() {
        Due.says("one to four unlike letters");
        String letters = "odntg";
        for (int i = 0; i < 125; i++) {
            String text = "" + letters.charAt(i / 25) + letters.charAt(i / 5 % 5) + letters.charAt(i % 5);
            boolean second = text.charAt(1) != text.charAt(0);
            boolean third = text.charAt(2) != text.charAt(0) && text.charAt(2) != text.charAt(1);
            treatyOf(text, !second ? 1 : !third ? 2 : 3);
        }
        treatyOf("odno", 3);
        treatyOf("odnd", 3);
        treatyOf("odnn", 3);
    }

    private static void onlyTheseLetters() {
        Due.says("\"o\" no OFFICER is shot at, \"d\" nobody along a diagonal, \"n\" nobody at DISTANCE 1, "
            + "\"t\" no SIDE shoots right behind its own SHOT, \"g\" no GUNNER shoots.");
        for (int code = 32; code <= 126; code++) {
            boolean is = code == 'o' || code == 'd' || code == 'n' || code == 't' || code == 'g';
            treatyOf("" + (char) code, is ? 1 : 0);
            boolean behind = is && code != 'd';
            treatyOf("d" + (char) code, behind ? 2 : 1);
        }
    }

    private static void carpetOfEachLength() {
        Due.says("THE PAGE is empty then. STATE: it is none.");
        String long22 = OPEN + "00";
        for (int many = 0; many <= 22; many++) {
            TinSoldiers x = paged(long22.substring(0, many));
            if (many == 20) {
                Due.is("carpet() of 20", 15, x.carpet());
            } else {
                Due.refused("carpet() of " + many, x, x.digest(), STATE, x.carpet());
                Due.is("letters stay", many, x.count(10));
            }
        }
    }

    private static void carpetOfWrongSign() {
        Due.says("STATE: it is none.");
        for (int place = 0; place < 20; place++) {
            TinSoldiers x = Due.laid("#..../...../.....;12");
            x.soldier(0, 0, 7);
            Due.write(x, OPEN.substring(0, place) + "!" + OPEN.substring(place + 1));
            Due.refused("carpet(), wrong at " + place, x, x.digest(), STATE, x.carpet());
            Due.is("the carpet stays", 14, x.count(0));
            Due.is("who is there stays", 0, x.cell(7, 1));
            Due.is("carpets read", 1, x.count(11));
        }
    }

    private static void openCells() {
        Due.says("how many CELLS are open; THE PAGE is empty then.");
        for (int many = 0; many <= 15; many++) {
            int cover = (1 << 15) - (1 << many);
            TinSoldiers x = paged(Lines.carpet(cover, "00"));
            Due.is("carpet() with " + many + " open", many, x.carpet());
            Due.is("count(0)", many, x.count(0));
            for (int cell = 0; cell < 15; cell++) {
                Due.is("cell(" + cell + ", 0) of " + many, cell < many ? 1 : 0, x.cell(cell, 0));
            }
        }
    }

    private static void pageIsEmptyBehindCarpet() {
        Due.says("THE PAGE is read as THE CARPET");
        TinSoldiers x = Due.laid(OPEN);
        Due.is("letters", 0, x.count(10));
        Due.is("carpet() of the page read", STATE, x.carpet());
        Due.is("letter(46)", 1, x.letter(46));
        Due.is("blank()", 1, x.blank());
    }

    private static void anotherCarpetTakesAll() {
        Due.says("(another one is gone, with soldiers, SHOTS, the TREATY, COUNTS)");
        TinSoldiers x = Due.laid("##.../...../.....;99");
        x.soldier(1, 0, 7);
        x.soldier(0, 1, 8);
        Due.sign(x, "nodt");
        x.shoot(1, 0, true);
        x.shoot(0, 1, true);
        x.tally(1);
        Due.write(x, "...../...../....#;37");
        Due.is("another carpet()", 14, x.carpet());
        int[] want = {14, 3, 7, 0, 0, 0, 0, 0, NONE, 0, 0, 2, 0, 0};
        for (int what = 0; what <= 13; what++) {
            Due.is("count(" + what + ")", want[what], x.count(what));
        }
        Due.is("cell(0, 0)", 1, x.cell(0, 0));
        Due.is("cell(7, 1)", NONE, x.cell(7, 1));
        Due.is("cell(8, 1)", NONE, x.cell(8, 1));
        Due.is("about(0, 0)", UNKNOWN, x.about(0, 0));
        Due.is("fits()", 1, x.fits());
        Due.is("soldier(1, 0, 7)", 0, x.soldier(1, 0, 7));
        Due.is("soldier(0, 1, 8)", 1, x.soldier(0, 1, 8));
        Due.is("it was never hit", 0, x.about(0, 4));
        Due.is("it stands", 1, x.about(1, 3));
        Due.is("shoot(0, 1, false) is the first", 0, x.shoot(0, 1, false));
        Due.is("no treaty forbids it", NONE, x.count(8));
        Due.is("shots", 1, x.count(6));
    }

    private static void anotherCarpetTakesCover() {
        Due.says("(another one is gone");
        TinSoldiers x = Due.laid("...#./...../.....;99");
        Due.is("watch(1) on the one", 1 << 5 | 1 << 8, x.watch(1));
        Due.write(x, OPEN);
        x.carpet();
        x.soldier(0, 0, 7);
        x.soldier(0, 1, 9);
        Due.is("watch(1) on another one", 1 << 2 | 1 << 7, x.watch(1));
        Due.is("no cover is around 9", 6, x.tenths(0, 1));
        Due.write(x, "#..../...../.....;99");
        x.carpet();
        x.soldier(0, 0, 7);
        x.soldier(0, 1, 6);
        x.soldier(0, 1, 9);
        Due.is("cover is around 6", 6, x.tenths(0, 1));
        Due.is("none is around 9", 6, x.tenths(0, 2));
    }

    private static void anotherCarpetTakesWhoseTheLastWas() {
        Due.says("with soldiers, SHOTS, the TREATY");
        for (int side = 0; side <= 1; side++) {
            TinSoldiers x = Due.laid(OPEN);
            x.soldier(0, side, 0);
            x.soldier(0, 1 - side, 1);
            x.shoot(0, 1, false);
            Due.write(x, OPEN);
            x.carpet();
            x.soldier(0, side, 0);
            x.soldier(0, 1 - side, 1);
            Due.sign(x, "t");
            x.shoot(0, 1, false);
            Due.is("the first shot is behind none", NONE, x.count(8));
        }
    }

    private static void carpetsRead() {
        Due.says("11 how often a CARPET was read");
        TinSoldiers x = new TinSoldiers();
        for (int many = 1; many <= 20; many++) {
            Due.write(x, OPEN);
            x.carpet();
            Due.is("carpets read", many, x.count(11));
            x.carpet();
            Due.is("a refused one is not read", many, x.count(11));
        }
    }

    private static void treatyOfEachLength() {
        Due.says("STATE: it is none, or there is no CARPET.");
        for (int many = 0; many <= 22; many++) {
            TinSoldiers x = Due.laid(OPEN);
            Due.sign(x, "od");
            Due.write(x, "tgnodtgnodtgnodtgnodtg".substring(0, many));
            if (many >= 1 && many <= 4) {
                Due.is("treaty() of " + many, many, x.treaty());
                Due.is("letters of it", many, x.count(7));
            } else {
                Due.refused("treaty() of " + many, x, x.digest(), STATE, x.treaty());
                Due.is("letters of the old one", 2, x.count(7));
            }
        }
    }

    private static void treatyWithoutCarpet() {
        Due.says("or there is no CARPET.");
        TinSoldiers x = paged("o");
        Due.refused("treaty()", x, x.digest(), STATE, x.treaty());
        Due.is("letters stay", 1, x.count(10));
        Due.is("no treaty", 0, x.count(7));
    }

    private static void treatyInsteadOfAnother() {
        Due.says("(instead of another one; no BREACH)");
        TinSoldiers x = Due.laid(OPEN);
        x.soldier(0, 0, 0);
        x.soldier(0, 1, 1);
        Due.sign(x, "n");
        x.shoot(0, 1, false);
        Due.is("breach", 1, x.count(8));
        Due.write(x, "odd");
        Due.refused("treaty() of odd", x, x.digest(), STATE, x.treaty());
        Due.is("the breach stays", 1, x.count(8));
        x.blank();
        Due.sign(x, "g");
        Due.is("no breach", NONE, x.count(8));
        Due.is("one letter", 1, x.count(7));
        x.shoot(1, 0, false);
        Due.is("the old one forbids no more", NONE, x.count(8));
    }

    private static void pageIsEmptyBehindTreaty() {
        Due.says("THE PAGE is read as THE TREATY");
        TinSoldiers x = Due.laid(OPEN);
        Due.sign(x, "odnt");
        Due.is("letters", 0, x.count(10));
        Due.is("treaty() of the page read", STATE, x.treaty());
        Due.is("the treaty stays", 4, x.count(7));
    }

    private static void cellsFrom0To14() {
        Due.says("CELLS are 0 to 14 as told (0 to 4 in the first row).");
        for (int what = 0; what <= 2; what++) {
            TinSoldiers x = Due.laid(OPEN);
            Due.is("cell(-1, " + what + ")", UNKNOWN, x.cell(-1, what));
            Due.is("cell(15, " + what + ")", UNKNOWN, x.cell(15, what));
            for (int cell : Due.FAR) {
                Due.is("cell(" + cell + ", " + what + ")", UNKNOWN, x.cell(cell, what));
            }
        }
        for (int cell = 0; cell < 15; cell++) {
            TinSoldiers x = Due.laid(Lines.carpet(1 << cell, "00"));
            for (int other = 0; other < 15; other++) {
                Due.is("cell(" + other + ", 0), cover on " + cell, other == cell ? 0 : 1, x.cell(other, 0));
            }
        }
        TinSoldiers x = Due.laid("....#/...../#....;00");
        Due.is("the first row ends with 4", 0, x.cell(4, 0));
        Due.is("the third row begins with 10", 0, x.cell(10, 0));
    }

    private static void whatOfCell() {
        Due.says("what = 0 whether it is open (1, 0), 1 who is there, fallen or not (NONE), "
            + "2 what is SEEN from it, as bits (0: it is COVER). UNKNOWN (also without a CARPET); OUTSIDE.");
        TinSoldiers x = Due.laid(OPEN);
        Due.is("cell(0, -1)", OUTSIDE, x.cell(0, -1));
        Due.is("cell(14, 3)", OUTSIDE, x.cell(14, 3));
        for (int what : Due.FAR) {
            Due.is("cell(0, " + what + ")", OUTSIDE, x.cell(0, what));
        }
    }

    private static void unknownAheadOfOutside() {
        Due.says("UNKNOWN (also without a CARPET); OUTSIDE.");
        TinSoldiers x = new TinSoldiers();
        for (int what = -1; what <= 3; what++) {
            Due.is("cell(0, " + what + ") without a carpet", UNKNOWN, x.cell(0, what));
            Due.is("cell(14, " + what + ") without a carpet", UNKNOWN, x.cell(14, what));
        }
        x = Due.laid(OPEN);
        Due.is("cell(-1, -1)", UNKNOWN, x.cell(-1, -1));
        Due.is("cell(15, 3)", UNKNOWN, x.cell(15, 3));
    }

    private static void whoIsThere() {
        Due.says("1 who is there, fallen or not (NONE)");
        TinSoldiers x = Due.laid("...../...../....#;99");
        x.soldier(0, 0, 0);
        x.soldier(0, 1, 13);
        x.soldier(0, 1, 5);
        for (int cell = 0; cell < 15; cell++) {
            int want = cell == 0 ? 0 : cell == 13 ? 1 : cell == 5 ? 2 : NONE;
            Due.is("cell(" + cell + ", 1)", want, x.cell(cell, 1));
        }
        x.shoot(0, 2, true);
        Due.is("cell(5, 1), fallen", 2, x.cell(5, 1));
        x.move(2, 9);
        Due.is("cell(5, 1), moved away", NONE, x.cell(5, 1));
        Due.is("cell(9, 1), moved there", 2, x.cell(9, 1));
    }

    private static void seenFromCover() {
        Due.says("(0: it is COVER)");
        for (int cell = 0; cell < 15; cell++) {
            TinSoldiers x = Due.laid(Lines.carpet(1 << cell, "00"));
            Due.is("cell(" + cell + ", 2), cover", 0, x.cell(cell, 2));
        }
    }

    private static void seenItself() {
        Due.says("SEES: from an open CELL it itself");
        for (int cell = 0; cell < 15; cell++) {
            TinSoldiers x = Due.laid(Lines.carpet(0x7FFF ^ 1 << cell, "00"));
            for (int other = 0; other < 15; other++) {
                Due.is("cell(" + other + ", 2)", other == cell ? 1 << cell : 0, x.cell(other, 2));
            }
        }
    }

    private static void seenAlongLines() {
        Due.says("all open CELLS to which there is a LINE without COVER between");
        TinSoldiers x = Due.laid(OPEN);
        for (int cell = 0; cell < 15; cell++) {
            int want = 1 << cell;
            for (int other = 0; other < 15; other++) {
                want |= Lines.distance(cell, other) > 0 ? 1 << other : 0;
            }
            Due.is("cell(" + cell + ", 2)", want, x.cell(cell, 2));
        }
    }

    /** All carpets with cover on one or two cells. */
    private static void seenPastCover() {
        Due.says("a LINE without COVER between");
        for (int one = 0; one < 15; one++) {
            for (int two = one; two < 15; two++) {
                TinSoldiers x = Due.laid(Lines.carpet(1 << one | 1 << two, "00"));
                for (int cell = 0; cell < 15; cell++) {
                    Due.is("cell(" + cell + ", 2), cover on " + one + ", " + two, seen(cell, one, two), x.cell(cell, 2));
                }
            }
        }
    }

    private static int seen(int cell, int one, int two) {
        if (cell == one || cell == two) {
            return 0;
        }
        int bits = 1 << cell;
        for (int other = 0; other < 15; other++) {
            boolean past = Lines.isBetween(one, cell, other) || Lines.isBetween(two, cell, other);
            if (Lines.distance(cell, other) > 0 && !past && other != one && other != two) {
                bits |= 1 << other;
            }
        }
        return bits;
    }

    private static void seenWhoeverStands() {
        Due.says("(whoever STANDS there)");
        TinSoldiers empty = Due.laid(OPEN);
        TinSoldiers x = Due.laid(OPEN);
        for (int one = 0; one < 6; one++) {
            x.soldier(one % 5, one % 2, 4 + one);
        }
        for (int cell = 0; cell < 15; cell++) {
            Due.is("cell(" + cell + ", 2)", empty.cell(cell, 2), x.cell(cell, 2));
        }
    }
}
