import java.util.ArrayList;
import java.util.List;
import java.util.function.Supplier;
import java.util.function.ToLongFunction;

/**
 * Two objects made by the same calls; one is asked something that must change nothing; then both go on
 * alike. What digest() does not tell (the letters of the treaty, whose the last shot was, the counts,
 * the image) shows in how they go on.
 */
final class Twins {
    private static final int WAYS_TO_GO_ON = 9;

    private Twins() {
    }

    static void refused(String call, Supplier<TinSoldiers> state, int want, ToLongFunction<TinSoldiers> ask) {
        Due.is(call, want, ask.applyAsLong(state.get()));
        unchanged(call, state, ask);
    }

    static void unchanged(String call, Supplier<TinSoldiers> state, ToLongFunction<TinSoldiers> ask) {
        for (int way = 0; way < WAYS_TO_GO_ON; way++) {
            TinSoldiers asked = state.get();
            ask.applyAsLong(asked);
            List<Long> got = goOn(way, asked);
            List<Long> want = goOn(way, state.get());
            Due.holds(call + " changes nothing (going on by way " + way + "): " + got + ", due is " + want, got.equals(want));
        }
    }

    private static List<Long> goOn(int way, TinSoldiers x) {
        List<Long> answers = new ArrayList<>();
        switch (way) {
            case 0 -> askAll(x, answers);
            case 1 -> shootAll(x, false, false, answers);
            case 2 -> shootInTurn(x, false, answers);
            case 3 -> shootInTurn(x, true, answers);
            case 4 -> {
                answers.add((long) x.restore());
                askAll(x, answers);
                shootAll(x, false, false, answers);
            }
            case 5, 6 -> {
                answers.add((long) x.restore());
                shootInTurn(x, way == 6, answers);
            }
            case 7 -> {
                answers.add((long) x.treaty());
                answers.add((long) x.carpet());
                askAll(x, answers);
            }
            default -> {
                answers.add((long) x.dinner());
                answers.add((long) x.image());
                shootAll(x, true, false, answers);
                answers.add((long) x.soldier(4, 0, 14));
                answers.add((long) x.restore());
                askAll(x, answers);
            }
        }
        return answers;
    }

    private static void askAll(TinSoldiers x, List<Long> answers) {
        answers.add(x.digest());
        for (int what = 0; what < 14; what++) {
            answers.add((long) x.count(what));
        }
        for (int one = 0; one < 6; one++) {
            answers.add((long) x.last(one));
        }
        for (int what = 0; what < 3; what++) {
            answers.add((long) x.afternoons(60, 77, what));
            answers.add((long) x.best(0, 2, what));
        }
        answers.add((long) x.fits());
        answers.add((long) x.watch(1));
        answers.add((long) x.fault(0));
        answers.add((long) x.fault(1));
        answers.add((long) x.tally(2));
        answers.add((long) x.fits());
    }

    /** Shots that can be done alone: a refused one could hide what another refused one changed. */
    private static void shootAll(TinSoldiers x, boolean hits, boolean backwards, List<Long> answers) {
        for (int i = 0; i < 36; i++) {
            int pair = backwards ? 35 - i : i;
            if (x.tenths(pair / 6, pair % 6) > 0) {
                answers.add((long) pair);
                answers.add((long) x.shoot(pair / 6, pair % 6, hits));
                answers.add((long) x.count(8));
            }
        }
        answers.add(x.digest());
    }

    /** Under a treaty of "t" alone the first shot tells whose the last one was. */
    private static void shootInTurn(TinSoldiers x, boolean backwards, List<Long> answers) {
        x.blank();
        x.letter('t');
        answers.add((long) x.treaty());
        shootAll(x, false, backwards, answers);
    }
}
