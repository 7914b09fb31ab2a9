import java.util.ArrayList;
import java.util.List;
import java.util.TreeMap;
import java.util.regex.Pattern;

/**
 * The document once more, written for being read and not for speed: texts by patterns, lines by
 * walking, means as fractions over a tree of clones, ways by going through every one of them.
 */
final class Oracle {
    static final int NONE = -1, UNKNOWN = -101, OUTSIDE = -102, STATE = -103, FULL = -104;

    private static final class Man {
        int kind;
        int side;
        int cell;
        int hit;
        boolean fallen;

        Man copy() {
            Man man = new Man();
            man.kind = kind;
            man.side = side;
            man.cell = cell;
            man.hit = hit;
            man.fallen = fallen;
            return man;
        }
    }

    private static final class World {
        List<Man> men = new ArrayList<>();
        int[] peas = {0, 0};
        List<Integer> shooters = new ArrayList<>();
        String treaty = "";
        int breach = NONE;
        List<Integer> counts = new ArrayList<>();

        World copy() {
            World world = new World();
            for (Man man : men) {
                world.men.add(man.copy());
            }
            world.peas = peas.clone();
            world.shooters = new ArrayList<>(shooters);
            world.treaty = treaty;
            world.breach = breach;
            world.counts = new ArrayList<>(counts);
            return world;
        }
    }

    /** A fraction in lowest terms. */
    private record Part(long above, long below) {
        static Part of(long above, long below) {
            long a = Math.abs(above);
            long b = below;
            while (b != 0) {
                long rest = a % b;
                a = b;
                b = rest;
            }
            return new Part(above / a, below / a);
        }

        Part plus(Part other) {
            return of(above * other.below + other.above * below, below * other.below);
        }

        Part times(long tenths) {
            return of(above * tenths, below * 10);
        }

        int compare(Part other) {
            return Long.compare(above * other.below, other.above * below);
        }
    }

    private String page = "";
    private String cells = null;
    private World world = new World();
    private World kept = null;
    private int carpets = 0;
    private int watches = 0;
    private int bests = 0;

    int letter(int code) {
        if (code < 32 || code > 126) {
            return OUTSIDE;
        }
        if (page.length() == 22) {
            return FULL;
        }
        page += (char) code;
        return page.length();
    }

    int blank() {
        int had = page.length();
        page = "";
        return had;
    }

    private static final Pattern CARPET = Pattern.compile("[.#]{5}/[.#]{5}/[.#]{5};[0-9]{2}");
    private static final Pattern TREATY = Pattern.compile("(?!.*(.).*\\1)[odntg]{1,4}");

    int fault(int sort) {
        if (sort != 0 && sort != 1) {
            return OUTSIDE;
        }
        for (int length = 1; length <= page.length(); length++) {
            var matcher = (sort == 0 ? CARPET : TREATY).matcher(page.substring(0, length));
            if (!matcher.matches() && !(sort == 0 && matcher.hitEnd())) {
                return length - 1;
            }
        }
        return page.length();
    }

    int carpet() {
        if (!CARPET.matcher(page).matches()) {
            return STATE;
        }
        cells = page.substring(0, 5) + page.substring(6, 11) + page.substring(12, 17);
        world = new World();
        world.peas[0] = Character.digit(page.charAt(18), 10);
        world.peas[1] = Character.digit(page.charAt(19), 10);
        kept = null;
        carpets++;
        page = "";
        return count(0);
    }

    int treaty() {
        if (!TREATY.matcher(page).matches() || cells == null) {
            return STATE;
        }
        world.treaty = page;
        world.breach = NONE;
        return blank();
    }

    private boolean noCell(int cell) {
        return cells == null || cell < 0 || cell > 14;
    }

    private boolean open(int cell) {
        return cells.charAt(cell) == '.';
    }

    /** The cells from one (not among them) on in a direction until the edge. */
    private static List<Integer> way(int from, int down, int right) {
        List<Integer> way = new ArrayList<>();
        int row = from / 5 + down;
        int column = from % 5 + right;
        while (row >= 0 && row < 3 && column >= 0 && column < 5) {
            way.add(row * 5 + column);
            row += down;
            column += right;
        }
        return way;
    }

    private static List<List<Integer>> waysFrom(int cell) {
        List<List<Integer>> ways = new ArrayList<>();
        for (int down = -1; down <= 1; down++) {
            for (int right = -1; right <= 1; right++) {
                if (down != 0 || right != 0) {
                    ways.add(way(cell, down, right));
                }
            }
        }
        return ways;
    }

    private int sees(int from) {
        if (!open(from)) {
            return 0;
        }
        int bits = 1 << from;
        for (List<Integer> way : waysFrom(from)) {
            for (int cell : way) {
                if (!open(cell)) {
                    break;
                }
                bits |= 1 << cell;
            }
        }
        return bits;
    }

    private int whoIsOn(int cell) {
        for (int i = 0; i < world.men.size(); i++) {
            if (world.men.get(i).cell == cell) {
                return i;
            }
        }
        return NONE;
    }

    int cell(int cell, int what) {
        if (noCell(cell)) {
            return UNKNOWN;
        }
        if (what < 0 || what > 2) {
            return OUTSIDE;
        }
        return what == 0 ? (open(cell) ? 1 : 0) : what == 1 ? whoIsOn(cell) : sees(cell);
    }

    int soldier(int kind, int side, int cell) {
        if (kind < 0 || kind > 4 || side < 0 || side > 1) {
            return OUTSIDE;
        }
        if (noCell(cell)) {
            return UNKNOWN;
        }
        if (!open(cell) || whoIsOn(cell) != NONE) {
            return STATE;
        }
        if (world.men.size() == 6) {
            return FULL;
        }
        Man man = new Man();
        man.kind = kind;
        man.side = side;
        man.cell = cell;
        world.men.add(man);
        return world.men.size() - 1;
    }

    private boolean noMan(int soldier) {
        return soldier < 0 || soldier >= world.men.size();
    }

    int about(int soldier, int what) {
        if (noMan(soldier)) {
            return UNKNOWN;
        }
        if (what < 0 || what > 5) {
            return OUTSIDE;
        }
        Man man = world.men.get(soldier);
        int targets = 0;
        for (int other = 0; other < world.men.size(); other++) {
            targets += tenths(world, soldier, other) > 0 ? 1 : 0;
        }
        return new int[] {man.kind, man.side, man.cell, man.fallen ? 0 : 1, man.hit, targets}[what];
    }

    int as(int soldier, int kind) {
        if (noMan(soldier)) {
            return UNKNOWN;
        }
        if (kind < 0 || kind > 4) {
            return OUTSIDE;
        }
        String[] kinds = {"0", "01", "02", "03", "014"};
        return kinds[world.men.get(soldier).kind].contains("" + kind) ? soldier : NONE;
    }

    int move(int soldier, int cell) {
        if (noMan(soldier) || noCell(cell)) {
            return UNKNOWN;
        }
        if (!open(cell) || whoIsOn(cell) != NONE) {
            return STATE;
        }
        int was = world.men.get(soldier).cell;
        world.men.get(soldier).cell = cell;
        return was;
    }

    private static boolean stoodOn(World then, int cell) {
        return then.men.stream().anyMatch(man -> man.cell == cell && !man.fallen);
    }

    private int tenths(World then, int a, int b) {
        Man one = then.men.get(a);
        Man other = then.men.get(b);
        if (one.fallen || other.fallen || one.side == other.side || then.peas[one.side] == 0) {
            return 0;
        }
        for (List<Integer> way : waysFrom(one.cell)) {
            int at = way.indexOf(other.cell);
            if (at >= 0) {
                for (int cell : way.subList(0, at)) {
                    if (!open(cell) || stoodOn(then, cell)) {
                        return 0;
                    }
                }
                boolean cover = false;
                for (List<Integer> around : waysFrom(other.cell)) {
                    cover |= !around.isEmpty() && !open(around.get(0));
                }
                return Math.max(1, 10 - (at + 1) * (one.kind == 3 ? 1 : 2) - (cover ? 2 : 0));
            }
        }
        return 0;
    }

    int tenths(int a, int b) {
        return noMan(a) || noMan(b) ? UNKNOWN : tenths(world, a, b);
    }

    /** Takes the pea; if it hits, hits whoever is in its way. */
    private int fire(World then, int a, int b, boolean hits) {
        Man one = then.men.get(a);
        Man other = then.men.get(b);
        then.peas[one.side]--;
        int done = 0;
        boolean flies = hits;
        for (List<Integer> way : waysFrom(one.cell)) {
            if (!way.contains(other.cell)) {
                continue;
            }
            for (int cell : way) {
                if (!open(cell)) {
                    break;
                }
                for (Man man : then.men) {
                    if (flies && man.cell == cell && !man.fallen) {
                        done += hit(man);
                        flies = man.kind == 4;
                    }
                }
            }
        }
        return done;
    }

    private static int hit(Man man) {
        if (man.kind == 2) {
            man.side = man.side == 0 ? 1 : 0;
            return 1;
        }
        man.hit++;
        man.fallen = man.hit == (man.kind == 1 || man.kind == 4 ? 2 : 1);
        return man.fallen ? 1 : 0;
    }

    private boolean forbidden(Man one, Man other) {
        int down = Math.abs(one.cell / 5 - other.cell / 5);
        int right = Math.abs(one.cell % 5 - other.cell % 5);
        List<Integer> shooters = world.shooters;
        for (char letter : world.treaty.toCharArray()) {
            boolean so = switch (letter) {
                case 'o' -> other.kind == 1 || other.kind == 4;
                case 'd' -> down == right;
                case 'n' -> down < 2 && right < 2;
                case 't' -> !shooters.isEmpty() && shooters.get(shooters.size() - 1) == one.side;
                default -> one.kind == 3;
            };
            if (so) {
                return true;
            }
        }
        return false;
    }

    int shoot(int a, int b, boolean hits) {
        if (noMan(a) || noMan(b)) {
            return UNKNOWN;
        }
        if (tenths(world, a, b) == 0) {
            return STATE;
        }
        boolean breaks = forbidden(world.men.get(a), world.men.get(b));
        world.shooters.add(world.men.get(a).side);
        if (breaks && world.breach == NONE) {
            world.breach = world.shooters.size();
        }
        return fire(world, a, b, hits);
    }

    int dinner() {
        int risen = 0;
        for (Man man : world.men) {
            risen += man.fallen ? 1 : 0;
            man.fallen = false;
            man.hit = 0;
        }
        return risen;
    }

    int watch(int what) {
        if (what != 0 && what != 1) {
            return OUTSIDE;
        }
        if (cells == null || watches == 20) {
            return STATE;
        }
        watches++;
        int all = 0;
        for (int cell = 0; cell < 15; cell++) {
            all |= open(cell) ? 1 << cell : 0;
        }
        for (int few = 0; few <= 15; few++) {
            int which = leastOf(few, all, 0, 0, 14);
            if (which != NONE) {
                return what == 0 ? few : which;
            }
        }
        throw new AssertionError("all open cells see all");
    }

    /** The least set of so many more open cells, from a cell down, that together see all; NONE. */
    private int leastOf(int few, int all, int set, int seen, int from) {
        if (few == 0) {
            return seen == all ? set : NONE;
        }
        int least = NONE;
        for (int cell = 0; cell <= from; cell++) {
            if (open(cell)) {
                int found = leastOf(few - 1, all, set | 1 << cell, seen | sees(cell), cell - 1);
                if (found != NONE && (least == NONE || found < least)) {
                    least = found;
                }
            }
        }
        return least;
    }

    private static int standing(World then, int side) {
        return (int) then.men.stream().filter(man -> !man.fallen && man.side == side).count();
    }

    private Part mean(World then, int first, int side, int left) {
        if (left == 0) {
            return Part.of(standing(then, first) - standing(then, 1 - first), 1);
        }
        Part best = null;
        for (Part mean : choices(then, first, side, left).values()) {
            if (best == null || (side == first ? mean.compare(best) > 0 : mean.compare(best) < 0)) {
                best = mean;
            }
        }
        return best;
    }

    /** What each choice leads to, passing (NONE) being the least of them. */
    private TreeMap<Integer, Part> choices(World then, int first, int side, int left) {
        TreeMap<Integer, Part> means = new TreeMap<>();
        means.put(NONE, mean(then, first, 1 - side, left - 1));
        for (int a = 0; a < then.men.size(); a++) {
            for (int b = 0; b < then.men.size(); b++) {
                int tenths = tenths(then, a, b);
                if (then.men.get(a).side == side && tenths > 0) {
                    World hit = then.copy();
                    fire(hit, a, b, true);
                    World missed = then.copy();
                    fire(missed, a, b, false);
                    Part ofHit = mean(hit, first, 1 - side, left - 1).times(tenths);
                    Part ofMiss = mean(missed, first, 1 - side, left - 1).times(10 - tenths);
                    means.put(6 * a + b, ofHit.plus(ofMiss));
                }
            }
        }
        return means;
    }

    int best(int side, int shots, int what) {
        if (side < 0 || side > 1 || shots < 1 || shots > 3 || what < 0 || what > 2) {
            return OUTSIDE;
        }
        if (cells == null || bests == 20) {
            return STATE;
        }
        bests++;
        TreeMap<Integer, Part> means = choices(world, side, side, shots);
        int choice = NONE;
        for (int one : means.keySet()) {
            choice = means.get(one).compare(means.get(choice)) > 0 ? one : choice;
        }
        Part mean = means.get(choice);
        return what == 0 ? (int) mean.above : what == 1 ? (int) mean.below : choice;
    }

    int tally(int many) {
        if (many < 0 || many > 6) {
            return OUTSIDE;
        }
        if (world.counts.size() == 6) {
            return FULL;
        }
        world.counts.add(many);
        return world.counts.size();
    }

    int forget() {
        int had = world.counts.size();
        world.counts.clear();
        return had;
    }

    /** Goes through every way from a morning on; ends[i][s]: ways that end with soldier i of side s. */
    private int goThrough(int morning, int[] sides, int[][] ends) {
        int ofSide0 = 0;
        for (int i = 0; i < sides.length; i++) {
            ofSide0 += !world.men.get(i).fallen && sides[i] == 0 ? 1 : 0;
        }
        if (ofSide0 != world.counts.get(morning)) {
            return 0;
        }
        if (morning == world.counts.size() - 1) {
            for (int i = 0; i < sides.length; i++) {
                ends[i][sides[i]]++;
            }
            return 1;
        }
        int ways = goThrough(morning + 1, sides, ends);
        for (int i = 0; i < sides.length; i++) {
            if (world.men.get(i).kind == 2) {
                sides[i] = 1 - sides[i];
                ways += goThrough(morning + 1, sides, ends);
                sides[i] = 1 - sides[i];
            }
        }
        return ways;
    }

    private int goThroughFirst(int from, int[] sides, int[][] ends) {
        if (from == sides.length) {
            return goThrough(0, sides, ends);
        }
        Man man = world.men.get(from);
        if (man.kind != 2) {
            sides[from] = man.side;
            return goThroughFirst(from + 1, sides, ends);
        }
        sides[from] = 0;
        int ways = goThroughFirst(from + 1, sides, ends);
        sides[from] = 1;
        return ways + goThroughFirst(from + 1, sides, ends);
    }

    int fits() {
        if (cells == null) {
            return STATE;
        }
        if (world.counts.isEmpty()) {
            return 1;
        }
        return goThroughFirst(0, new int[world.men.size()], new int[world.men.size()][2]);
    }

    int last(int soldier) {
        if (noMan(soldier)) {
            return UNKNOWN;
        }
        if (world.men.get(soldier).fallen) {
            return STATE;
        }
        if (world.counts.isEmpty()) {
            return NONE;
        }
        int[][] ends = new int[world.men.size()][2];
        int ways = goThroughFirst(0, new int[world.men.size()], ends);
        if (ways == 0) {
            return NONE;
        }
        return ends[soldier][0] == ways ? 0 : ends[soldier][1] == ways ? 1 : NONE;
    }

    private long seed;

    private int draw(int many) {
        seed = (1103515245L * seed + 12345L) % 2147483648L;
        return (int) (seed / 65536L % many);
    }

    int afternoons(int times, int firstSeed, int what) {
        if (times < 1 || times > 60 || firstSeed < 0 || what < 0 || what > 2) {
            return OUTSIDE;
        }
        if (world.men.isEmpty()) {
            return STATE;
        }
        World then = world.copy();
        seed = firstSeed;
        int done = 0;
        for (int i = 0; i < times; i++) {
            int a = draw(then.men.size());
            int b = draw(then.men.size());
            int tenths = tenths(then, a, b);
            if (tenths > 0) {
                done += fire(then, a, b, draw(10) < tenths);
            }
        }
        return what == 0 ? done : what == 1 ? then.peas[0] + then.peas[1] : (int) seed;
    }

    int image() {
        if (cells == null) {
            return STATE;
        }
        kept = world.copy();
        return world.shooters.size();
    }

    int restore() {
        if (kept == null) {
            return STATE;
        }
        world = kept.copy();
        return world.shooters.size();
    }

    int count(int what) {
        if (what < 0 || what > 13) {
            return OUTSIDE;
        }
        int open = cells == null ? 0 : (int) cells.chars().filter(sign -> sign == '.').count();
        return new int[] {open, world.peas[0], world.peas[1], world.men.size(), standing(world, 0),
            standing(world, 1), world.shooters.size(), world.treaty.length(), world.breach,
            world.counts.size(), page.length(), carpets, watches, bests}[what];
    }

    long digest() {
        List<Integer> all = new ArrayList<>();
        if (cells != null) {
            for (int i = 0; i < 45; i++) {
                all.add(cell(i / 3, i % 3));
            }
            all.add(fits());
        }
        for (int i = 0; i < world.men.size(); i++) {
            for (int what = 0; what <= 5; what++) {
                all.add(about(i, what));
            }
            for (int j = 0; j < world.men.size(); j++) {
                all.add(tenths(i, j));
            }
        }
        page.chars().forEach(all::add);
        for (int what = 0; what <= 13; what++) {
            all.add(count(what));
        }
        long h = 839;
        for (int number : all) {
            h = 31 * h + number;
        }
        return h;
    }
}
