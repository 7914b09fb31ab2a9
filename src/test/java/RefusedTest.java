import java.util.function.Supplier;
import java.util.function.ToLongFunction;

/** "Refusals .. change nothing", for every refusal of every call, in four states; and those that only ask. */
public final class RefusedTest {
    private static final int UNKNOWN = -101, OUTSIDE = -102, STATE = -103, FULL = -104;
    private static final int SOLDIER = 0, OFFICER = 1, SPY = 2, GUNNER = 3, BENT = 4;
    private static final int[] NEVER = {Integer.MIN_VALUE, -2, -1, 63, 1 << 16, Integer.MAX_VALUE};

    private final String name;
    private final Supplier<TinSoldiers> state;

    private RefusedTest(String name, Supplier<TinSoldiers> state) {
        this.name = name;
        this.state = state;
    }

    public static void main(String[] args) {
        Due.says("Refusals, of several the first as told by each call: UNKNOWN (a number names nothing), "
            + "OUTSIDE (it is not as told), STATE (as told), FULL; they change nothing.");
        theStatesAreAsMeant();
        new RefusedTest("bare", RefusedTest::bare).inBare();
        new RefusedTest("fresh", RefusedTest::fresh).inFresh();
        new RefusedTest("busy", RefusedTest::busy).inBusy();
        new RefusedTest("worn", RefusedTest::worn).inWorn();
        new RefusedTest("bare", RefusedTest::bare).asking();
        new RefusedTest("busy", RefusedTest::busy).asking();
        new RefusedTest("worn", RefusedTest::worn).asking();
        Due.end();
    }

    /** No carpet, but a page and counts. */
    private static TinSoldiers bare() {
        TinSoldiers x = new TinSoldiers();
        Due.write(x, "od");
        x.tally(2);
        x.tally(3);
        return x;
    }

    /** Another carpet since an image was kept; nobody on it. */
    private static TinSoldiers fresh() {
        TinSoldiers x = Due.laid("...../...../.....;99");
        x.soldier(SPY, 0, 7);
        x.image();
        Due.write(x, "#..../...../.....;43");
        x.carpet();
        return x;
    }

    /** Six soldiers, one fallen, one hit once; a treaty without a breach; an image from which much changed. */
    private static TinSoldiers busy() {
        TinSoldiers x = Due.laid("....#/...../#....;98");
        x.soldier(SOLDIER, 0, 0);
        x.soldier(OFFICER, 1, 1);
        x.soldier(SPY, 1, 5);
        x.soldier(GUNNER, 0, 12);
        x.soldier(BENT, 1, 7);
        x.soldier(SOLDIER, 1, 2);
        Due.sign(x, "ot");
        x.tally(2);
        x.shoot(0, 1, true);
        x.image();
        Due.sign(x, "td");
        x.tally(3);
        x.shoot(1, 0, false);
        x.shoot(3, 4, true);
        x.move(1, 6);
        x.move(3, 13);
        Due.write(x, "xy");
        x.watch(0);
        x.best(0, 1, 0);
        return x;
    }

    /** The same, with all that can be full full, and all that can be done 20 times done. */
    private static TinSoldiers worn() {
        TinSoldiers x = busy();
        for (int i = 0; i < 20; i++) {
            x.letter('o');
            x.tally(i % 3);
            x.watch(0);
            x.best(1, 1, 0);
        }
        return x;
    }

    private static void theStatesAreAsMeant() {
        TinSoldiers x = busy();
        int[] want = {13, 7, 7, 6, 2, 3, 3, 2, TinSoldiers.NONE, 2, 2, 1, 1, 1};
        for (int what = 0; what <= 13; what++) {
            Due.is("busy: count(" + what + ")", want[what], x.count(what));
        }
        Due.is("busy: who fell", 0, x.about(5, 3));
        Due.is("busy: who was hit once", 1, x.about(4, 4));
        x = worn();
        int[] most = {13, 7, 7, 6, 2, 3, 3, 2, TinSoldiers.NONE, 6, 22, 1, 20, 20};
        for (int what = 0; what <= 13; what++) {
            Due.is("worn: count(" + what + ")", most[what], x.count(what));
        }
    }

    private void refuses(int want, String call, ToLongFunction<TinSoldiers> ask) {
        Twins.refused(name + ": " + call, state, want, ask);
    }

    private void onlyAsks(String call, ToLongFunction<TinSoldiers> ask) {
        Twins.unchanged(name + ": " + call, state, ask);
    }

    // ---- refusals that do not depend on the state

    private void always() {
        for (int code : new int[] {Integer.MIN_VALUE, -1, 0, 31, 127, 256 + 46, Integer.MAX_VALUE}) {
            refuses(OUTSIDE, "letter(" + code + ")", x -> x.letter(code));
        }
        refuses(OUTSIDE, "fault(2)", x -> x.fault(2));
        refuses(OUTSIDE, "watch(2)", x -> x.watch(2));
        refuses(OUTSIDE, "tally(7)", x -> x.tally(7));
        refuses(OUTSIDE, "count(14)", x -> x.count(14));
        refuses(OUTSIDE, "best(2, 1, 0)", x -> x.best(2, 1, 0));
        refuses(OUTSIDE, "best(0, 0, 0)", x -> x.best(0, 0, 0));
        refuses(OUTSIDE, "best(0, 4, 0)", x -> x.best(0, 4, 0));
        refuses(OUTSIDE, "best(0, 1, 3)", x -> x.best(0, 1, 3));
        refuses(OUTSIDE, "soldier(5, 0, 3)", x -> x.soldier(5, 0, 3));
        refuses(OUTSIDE, "soldier(0, 2, 3)", x -> x.soldier(0, 2, 3));
        refuses(OUTSIDE, "afternoons(0, 1, 0)", x -> x.afternoons(0, 1, 0));
        refuses(OUTSIDE, "afternoons(61, 1, 0)", x -> x.afternoons(61, 1, 0));
        refuses(OUTSIDE, "afternoons(1, 1, 3)", x -> x.afternoons(1, 1, 3));
        refuses(UNKNOWN, "cell(15, 0)", x -> x.cell(15, 0));
        refuses(UNKNOWN, "soldier(0, 0, 15)", x -> x.soldier(0, 0, 15));
        for (int number : NEVER) {
            neverAsTold(number);
        }
        refuses(OUTSIDE, "afternoons(1, -1, 0)", x -> x.afternoons(1, -1, 0));
    }

    private void neverAsTold(int number) {
        String n = Integer.toString(number);
        refuses(OUTSIDE, "fault(" + n + ")", x -> x.fault(number));
        refuses(OUTSIDE, "watch(" + n + ")", x -> x.watch(number));
        refuses(OUTSIDE, "tally(" + n + ")", x -> x.tally(number));
        refuses(OUTSIDE, "count(" + n + ")", x -> x.count(number));
        refuses(OUTSIDE, "best(" + n + ", 1, 0)", x -> x.best(number, 1, 0));
        refuses(OUTSIDE, "best(0, " + n + ", 0)", x -> x.best(0, number, 0));
        refuses(OUTSIDE, "best(0, 1, " + n + ")", x -> x.best(0, 1, number));
        refuses(OUTSIDE, "soldier(" + n + ", 0, 3)", x -> x.soldier(number, 0, 3));
        refuses(OUTSIDE, "soldier(0, " + n + ", 3)", x -> x.soldier(0, number, 3));
        refuses(UNKNOWN, "soldier(0, 0, " + n + ")", x -> x.soldier(0, 0, number));
        refuses(UNKNOWN, "cell(" + n + ", 0)", x -> x.cell(number, 0));
        refuses(UNKNOWN, "about(" + n + ", 0)", x -> x.about(number, 0));
        refuses(UNKNOWN, "as(" + n + ", 0)", x -> x.as(number, 0));
        refuses(UNKNOWN, "move(" + n + ", 3)", x -> x.move(number, 3));
        refuses(UNKNOWN, "move(0, " + n + ")", x -> x.move(0, number));
        refuses(UNKNOWN, "tenths(" + n + ", 0)", x -> x.tenths(number, 0));
        refuses(UNKNOWN, "tenths(0, " + n + ")", x -> x.tenths(0, number));
        refuses(UNKNOWN, "shoot(" + n + ", 0, true)", x -> x.shoot(number, 0, true));
        refuses(UNKNOWN, "shoot(0, " + n + ", true)", x -> x.shoot(0, number, true));
        refuses(UNKNOWN, "last(" + n + ")", x -> x.last(number));
        refuses(OUTSIDE, "afternoons(" + n + ", 1, 0)", x -> x.afternoons(number, 1, 0));
        refuses(OUTSIDE, "afternoons(1, 1, " + n + ")", x -> x.afternoons(1, 1, number));
    }

    private void withoutSoldiers() {
        refuses(UNKNOWN, "about(0, 0)", x -> x.about(0, 0));
        refuses(UNKNOWN, "as(0, 0)", x -> x.as(0, 0));
        refuses(UNKNOWN, "move(0, 3)", x -> x.move(0, 3));
        refuses(UNKNOWN, "tenths(0, 1)", x -> x.tenths(0, 1));
        refuses(UNKNOWN, "shoot(0, 1, true)", x -> x.shoot(0, 1, true));
        refuses(UNKNOWN, "last(0)", x -> x.last(0));
        refuses(STATE, "afternoons(1, 1, 0)", x -> x.afternoons(1, 1, 0));
        refuses(STATE, "restore()", TinSoldiers::restore);
        refuses(STATE, "carpet()", TinSoldiers::carpet);
        refuses(STATE, "treaty()", TinSoldiers::treaty);
    }

    // ---- refusals by state

    private void inBare() {
        always();
        withoutSoldiers();
        refuses(UNKNOWN, "cell(0, 0)", x -> x.cell(0, 0));
        refuses(UNKNOWN, "cell(14, 3)", x -> x.cell(14, 3));
        refuses(UNKNOWN, "soldier(0, 0, 0)", x -> x.soldier(0, 0, 0));
        refuses(STATE, "watch(0)", x -> x.watch(0));
        refuses(STATE, "best(0, 1, 0)", x -> x.best(0, 1, 0));
        refuses(STATE, "fits()", TinSoldiers::fits);
        refuses(STATE, "image()", TinSoldiers::image);
    }

    private void inFresh() {
        always();
        withoutSoldiers();
        refuses(OUTSIDE, "cell(0, 3)", x -> x.cell(0, 3));
        refuses(OUTSIDE, "cell(0, -1)", x -> x.cell(0, -1));
        refuses(STATE, "soldier(0, 0, 0), cover", x -> x.soldier(0, 0, 0));
    }

    private void inBusy() {
        always();
        ofSoldiers();
        refuses(STATE, "carpet()", TinSoldiers::carpet);
        refuses(STATE, "treaty()", TinSoldiers::treaty);
    }

    /** Six soldiers are there: 5 fell. */
    private void ofSoldiers() {
        refuses(STATE, "soldier(0, 0, 4), cover", x -> x.soldier(0, 0, 4));
        refuses(STATE, "soldier(0, 0, 0), somebody", x -> x.soldier(0, 0, 0));
        refuses(STATE, "soldier(0, 0, 2), one that fell", x -> x.soldier(0, 0, 2));
        refuses(FULL, "soldier(0, 0, 14)", x -> x.soldier(0, 0, 14));
        refuses(UNKNOWN, "about(6, 0)", x -> x.about(6, 0));
        refuses(OUTSIDE, "about(0, 6)", x -> x.about(0, 6));
        refuses(OUTSIDE, "about(0, -1)", x -> x.about(0, -1));
        refuses(UNKNOWN, "as(6, 0)", x -> x.as(6, 0));
        refuses(OUTSIDE, "as(0, 5)", x -> x.as(0, 5));
        refuses(OUTSIDE, "as(0, -1)", x -> x.as(0, -1));
        refuses(UNKNOWN, "move(6, 3)", x -> x.move(6, 3));
        refuses(UNKNOWN, "move(0, 15)", x -> x.move(0, 15));
        refuses(STATE, "move(0, 4), cover", x -> x.move(0, 4));
        refuses(STATE, "move(0, 6), somebody", x -> x.move(0, 6));
        refuses(STATE, "move(0, 2), one that fell", x -> x.move(0, 2));
        refuses(STATE, "move(0, 0), itself", x -> x.move(0, 0));
        refuses(UNKNOWN, "tenths(0, 6)", x -> x.tenths(0, 6));
        refuses(UNKNOWN, "tenths(6, 0)", x -> x.tenths(6, 0));
        for (boolean hits : new boolean[] {true, false}) {
            refuses(UNKNOWN, "shoot(0, 6)", x -> x.shoot(0, 6, hits));
            refuses(UNKNOWN, "shoot(6, 0)", x -> x.shoot(6, 0, hits));
            refuses(STATE, "shoot(0, 0), itself", x -> x.shoot(0, 0, hits));
            refuses(STATE, "shoot(1, 2), its own side", x -> x.shoot(1, 2, hits));
            refuses(STATE, "shoot(0, 4), no line", x -> x.shoot(0, 4, hits));
            refuses(STATE, "shoot(0, 5), fallen", x -> x.shoot(0, 5, hits));
            refuses(STATE, "shoot(5, 0), by one fallen", x -> x.shoot(5, 0, hits));
        }
        refuses(UNKNOWN, "last(6)", x -> x.last(6));
        refuses(STATE, "last(5), fallen", x -> x.last(5));
    }

    private void inWorn() {
        always();
        ofSoldiers();
        refuses(FULL, "letter(32)", x -> x.letter(32));
        refuses(FULL, "letter(126)", x -> x.letter(126));
        refuses(STATE, "carpet()", TinSoldiers::carpet);
        refuses(STATE, "treaty()", TinSoldiers::treaty);
        refuses(FULL, "tally(0)", x -> x.tally(0));
        refuses(FULL, "tally(6)", x -> x.tally(6));
        for (int what = 0; what <= 2; what++) {
            int told = what;
            refuses(told < 2 ? STATE : OUTSIDE, "watch(" + told + ")", x -> x.watch(told));
            refuses(STATE, "best(0, 1, " + told + ")", x -> x.best(0, 1, told));
            refuses(STATE, "best(1, 3, " + told + ")", x -> x.best(1, 3, told));
        }
    }

    // ---- calls that ask and change nothing, refused or not

    private void asking() {
        for (int one = 0; one < 6; one++) {
            int a = one;
            onlyAsks("last(" + a + ")", x -> x.last(a));
            for (int two = 0; two < 6; two++) {
                int b = two;
                onlyAsks("tenths(" + a + ", " + b + ")", x -> x.tenths(a, b));
                onlyAsks("about(" + a + ", " + b + ")", x -> x.about(a, b));
                onlyAsks("as(" + a + ", " + b + ")", x -> x.as(a, b));
            }
        }
        for (int number = 0; number < 15; number++) {
            int n = number;
            onlyAsks("cell(" + n + ", 0 to 2)", x -> x.cell(n, 0) + x.cell(n, 1) + x.cell(n, 2));
            onlyAsks("count(" + n + ")", x -> x.count(n));
            onlyAsks("afternoons(60, " + n + ", 0 to 2)", x -> x.afternoons(60, n, n % 3));
        }
        onlyAsks("fault(0)", x -> x.fault(0));
        onlyAsks("fault(1)", x -> x.fault(1));
        onlyAsks("fits()", TinSoldiers::fits);
        onlyAsks("digest()", TinSoldiers::digest);
    }
}
