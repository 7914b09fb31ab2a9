import java.io.IOException;
import java.nio.file.Files;
import java.nio.file.Path;

/** What the tests share: a tally of wrong answers, the document's sentences, and texts put on a page. */
final class Due {
    private static final Path DOCUMENT = Path.of("../shared/DOC.md");

    /** Numbers that name nothing and are not as told, wherever they stand, but for a seed. */
    static final int[] FAR = {Integer.MIN_VALUE, -65536, -256, 256 + 46, 65536 + 46, Integer.MAX_VALUE};

    private static int wrong = 0;
    private static String document = null;
    private static String sentence = "";

    private Due() {
    }

    static void is(String call, long want, long got) {
        if (got != want) {
            wrong++;
            System.out.println(sentence + call + " answered " + got + ", due is " + want);
        }
    }

    static void holds(String what, boolean so) {
        if (!so) {
            wrong++;
            System.out.println(sentence + "does not hold: " + what);
        }
    }

    /** The answers that follow are held to this sentence, which must stand in the document word for word. */
    static void says(String words) {
        sentence = "";
        holds("the document says: " + words, document().contains(words));
        sentence = "[" + words + "] ";
    }

    private static String document() {
        if (document == null) {
            try {
                document = Files.readString(DOCUMENT).replaceAll("\\s+", " ");
            } catch (IOException gone) {
                document = "";
                holds("the document can be read: " + gone, false);
            }
        }
        return document;
    }

    /** Every test's last call. */
    static void end() {
        System.out.println(wrong == 0 ? "all answers are as due" : wrong + " answers are not as due");
        if (wrong != 0) {
            System.exit(1);
        }
    }

    static void write(TinSoldiers x, String text) {
        for (int i = 0; i < text.length(); i++) {
            x.letter(text.charAt(i));
        }
    }

    static TinSoldiers laid(String carpet) {
        TinSoldiers x = new TinSoldiers();
        write(x, carpet);
        holds("a carpet: " + carpet, x.carpet() >= 0);
        return x;
    }

    /** Soldiers on a carpet, three numbers each: kind, side, cell. */
    static TinSoldiers army(String carpet, int... told) {
        TinSoldiers x = laid(carpet);
        for (int i = 0; i + 2 < told.length; i += 3) {
            is("soldier " + i / 3, i / 3, x.soldier(told[i], told[i + 1], told[i + 2]));
        }
        return x;
    }

    static void sign(TinSoldiers x, String treaty) {
        write(x, treaty);
        is("treaty() of " + treaty, treaty.length(), x.treaty());
    }

    /** A refused call must leave all as it was. */
    static void refused(String call, TinSoldiers x, long before, long want, long got) {
        is(call, want, got);
        is("digest() behind the refused " + call, before, x.digest());
    }
}
