import java.util.ArrayDeque;
import java.util.Deque;
import java.util.Random;

/** Random runs of calls, ordinary and wild ones, on the class and on the oracle: all answers are like. */
public final class OracleTest {
    private static final int RUNS = 1200, CALLS = 512;
    private static final int[] WILD = {Integer.MIN_VALUE, Integer.MAX_VALUE, -1, -2, 2, 7, 15, 16, 22, 61, 1 << 16, 32};

    private final Random random;
    private final TinSoldiers x = new TinSoldiers();
    private final Oracle o = new Oracle();
    private final StringBuilder told = new StringBuilder();
    private final Deque<Character> text = new ArrayDeque<>();
    private final int wildness;
    private boolean apart = false;

    private OracleTest(long seed) {
        random = new Random(seed);
        wildness = random.nextInt(12);
    }

    public static void main(String[] args) {
        for (int seed = 0; seed < RUNS; seed++) {
            new OracleTest(seed).run(seed);
        }
        Due.end();
    }

    private void run(long seed) {
        for (int call = 0; call < CALLS && !apart; call++) {
            try {
                step();
            } catch (RuntimeException thrown) {
                apart = true;
                Due.holds("run " + seed + " throws nothing: " + thrown + told, false);
            }
        }
        if (!apart) {
            like("digest()", o.digest(), x.digest());
        }
        if (apart) {
            System.out.println("run " + seed + ":" + told);
        }
    }

    private void like(String call, long want, long got) {
        told.append(' ').append(call).append('=').append(got);
        if (want != got) {
            apart = true;
            Due.is(call, want, got);
        }
    }

    /** Mostly a number below the bound, at times one that names nothing. */
    private int some(int bound) {
        if (random.nextInt(100) < wildness) {
            return random.nextBoolean() ? WILD[random.nextInt(WILD.length)] : random.nextInt();
        }
        return random.nextInt(bound);
    }

    private void put(String letters) {
        for (char letter : letters.toCharArray()) {
            text.add(letter);
        }
    }

    private String someCarpet() {
        int cover = random.nextInt(60);
        StringBuilder carpet = new StringBuilder();
        for (int place = 0; place < 17; place++) {
            boolean between = place % 6 == 5;
            carpet.append(between ? '/' : random.nextInt(100) < cover ? '#' : '.');
        }
        return carpet.append(';').append(random.nextInt(10)).append(random.nextInt(10)).toString();
    }

    private String someTreaty() {
        StringBuilder treaty = new StringBuilder();
        int many = 1 + random.nextInt(4);
        for (int i = 0; i < many; i++) {
            treaty.append("odntg".charAt(random.nextInt(5)));
        }
        return treaty.toString();
    }

    private void step() {
        if (!text.isEmpty()) {
            int code = random.nextInt(2000) < wildness ? some(127) : text.remove();
            like("letter(" + code + ")", o.letter(code), x.letter(code));
            int sort = some(2);
            if (random.nextInt(6) == 0) {
                like("fault(" + sort + ")", o.fault(sort), x.fault(sort));
            }
            if (text.isEmpty()) {
                read();
            }
            return;
        }
        if (x.count(11) == 0 && random.nextInt(3) == 0) {
            put(someCarpet());
            return;
        }
        int dice = random.nextInt(100);
        if (dice < 50) {
            stepOfSoldiers(dice);
        } else {
            stepOfOthers(dice);
        }
    }

    private void read() {
        if (random.nextBoolean()) {
            like("carpet()", o.carpet(), x.carpet());
            like("treaty()", o.treaty(), x.treaty());
        } else {
            like("treaty()", o.treaty(), x.treaty());
            like("carpet()", o.carpet(), x.carpet());
        }
        if (random.nextInt(4) != 0) {
            like("blank()", o.blank(), x.blank());
        }
    }

    private void stepOfSoldiers(int dice) {
        int a = some(6);
        int b = some(6);
        int cell = some(15);
        if (dice < 10) {
            int kind = some(5);
            int side = some(2);
            like("soldier(" + kind + ", " + side + ", " + cell + ")", o.soldier(kind, side, cell), x.soldier(kind, side, cell));
        } else if (dice < 34) {
            boolean hits = random.nextInt(4) != 0;
            like("shoot(" + a + ", " + b + ", " + hits + ")", o.shoot(a, b, hits), x.shoot(a, b, hits));
        } else if (dice < 42) {
            like("move(" + a + ", " + cell + ")", o.move(a, cell), x.move(a, cell));
        } else if (dice < 44) {
            like("tenths(" + a + ", " + b + ")", o.tenths(a, b), x.tenths(a, b));
        } else if (dice < 46) {
            int kind = some(5);
            like("as(" + a + ", " + kind + ")", o.as(a, kind), x.as(a, kind));
        } else if (dice < 49) {
            int what = some(6);
            like("about(" + a + ", " + what + ")", o.about(a, what), x.about(a, what));
        } else {
            like("dinner()", o.dinner(), x.dinner());
        }
    }

    private void stepOfOthers(int dice) {
        int what = some(3);
        if (dice < 53) {
            int cell = some(15);
            like("cell(" + cell + ", " + what + ")", o.cell(cell, what), x.cell(cell, what));
        } else if (dice < 55) {
            like("watch(" + what + ")", o.watch(what), x.watch(what));
        } else if (dice < 58) {
            int side = some(2);
            int shots = some(4);
            like("best(" + side + ", " + shots + ", " + what + ")", o.best(side, shots, what), x.best(side, shots, what));
        } else if (dice < 64) {
            int many = some(5);
            like("tally(" + many + ")", o.tally(many), x.tally(many));
        } else if (dice < 66) {
            like("forget()", o.forget(), x.forget());
        } else if (dice < 70) {
            like("fits()", o.fits(), x.fits());
        } else if (dice < 74) {
            int one = some(6);
            like("last(" + one + ")", o.last(one), x.last(one));
        } else if (dice < 79) {
            int times = 1 + some(60);
            int seed = random.nextInt() & (random.nextInt(20) == 0 ? -1 : Integer.MAX_VALUE);
            like("afternoons(" + times + ", " + seed + ", " + what + ")", o.afternoons(times, seed, what), x.afternoons(times, seed, what));
        } else {
            stepOfAll(dice);
        }
    }

    private void stepOfAll(int dice) {
        if (dice < 81) {
            like("image()", o.image(), x.image());
        } else if (dice < 83) {
            like("restore()", o.restore(), x.restore());
        } else if (dice < 89) {
            int what = some(14);
            like("count(" + what + ")", o.count(what), x.count(what));
        } else if (dice < 96) {
            like("digest()", o.digest(), x.digest());
        } else if (dice < 97) {
            like("blank()", o.blank(), x.blank());
        } else if (random.nextInt(12) == 0) {
            put(someCarpet());
        } else {
            put(someTreaty());
        }
    }
}
