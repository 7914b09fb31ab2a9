/**
 * Two armies of tin on a carpet that only fall, by peas: who can hit whom, the treaty and its first
 * breach, who sees all, the best shots, who went over by night, and afternoons by a seed.
 *
 * All rows are made with the object and used again; no call makes an object of its own.
 */
public final class TinSoldiers {
    public static final int NONE = -1, UNKNOWN = -101, OUTSIDE = -102, STATE = -103, FULL = -104;

    private static final int ROWS = 3, COLUMNS = 5, CELLS = ROWS * COLUMNS;
    private static final int SIDES = 2, MOST_SOLDIERS = 6, MOST_COUNTS = 6, MOST_LETTERS = 22;
    private static final int CARPET_SORT = 0, TREATY_SORT = 1;
    private static final int CARPET_LETTERS = 20, MOST_TREATY_LETTERS = 4;
    private static final String TREATY_LETTERS = "odntg";
    private static final int SURE = 10, LOSS_BY_COVER = 2;
    private static final int MOST_TURNS = 3, MOST_ASKED = 20, MOST_TIMES = 60, COUNTED = 14;
    private static final Kind[] KINDS = Kind.values();

    private final Page page = new Page();
    private final Carpet rug = new Carpet();
    private final Game game = new Game(rug);
    private final Game kept = new Game(rug);
    private final Nights nights = new Nights();
    private final Search search = new Search(rug);
    private final Trial trial = new Trial(rug);
    private boolean hasImage = false;
    private int carpetsRead = 0;
    private int watchesDone = 0;
    private int bestsDone = 0;

    public TinSoldiers() {
    }

    // ---- texts

    public int letter(int code) {
        if (code < 32 || code > 126) {
            return OUTSIDE;
        }
        if (page.length >= MOST_LETTERS) {
            return FULL;
        }
        return page.append(code);
    }

    public int blank() {
        return page.empty();
    }

    public int fault(int sort) {
        if (sort != CARPET_SORT && sort != TREATY_SORT) {
            return OUTSIDE;
        }
        return page.firstFault(sort);
    }

    public int carpet() {
        if (!page.isCarpet()) {
            return STATE;
        }
        rug.lay(page);
        game.clear(page.digitAt(CARPET_LETTERS - 2), page.digitAt(CARPET_LETTERS - 1));
        hasImage = false;
        carpetsRead++;
        page.empty();
        return rug.openCells();
    }

    public int treaty() {
        if (!page.isTreaty() || !rug.laid) {
            return STATE;
        }
        game.sign(page);
        return page.empty();
    }

    public int cell(int cell, int what) {
        if (!rug.has(cell)) {
            return UNKNOWN;
        }
        switch (what) {
            case 0:
                return rug.isOpen(cell) ? 1 : 0;
            case 1:
                return game.troops.whoIsAt(cell);
            case 2:
                return rug.seenFrom(cell);
            default:
                return OUTSIDE;
        }
    }

    // ---- soldiers

    public int soldier(int kind, int side, int cell) {
        if (!isKind(kind) || !isSide(side)) {
            return OUTSIDE;
        }
        if (!rug.has(cell)) {
            return UNKNOWN;
        }
        if (!game.troops.isFree(cell)) {
            return STATE;
        }
        if (game.troops.many >= MOST_SOLDIERS) {
            return FULL;
        }
        return game.troops.enlist(kind, side, cell);
    }

    public int about(int soldier, int what) {
        Troops troops = game.troops;
        if (!troops.has(soldier)) {
            return UNKNOWN;
        }
        switch (what) {
            case 0:
                return troops.kinds[soldier];
            case 1:
                return troops.sides[soldier];
            case 2:
                return troops.cells[soldier];
            case 3:
                return troops.stands[soldier] ? 1 : 0;
            case 4:
                return troops.hits[soldier];
            case 5:
                return troops.targetsOf(soldier);
            default:
                return OUTSIDE;
        }
    }

    public int as(int soldier, int kind) {
        if (!game.troops.has(soldier)) {
            return UNKNOWN;
        }
        if (!isKind(kind)) {
            return OUTSIDE;
        }
        return game.troops.kindOf(soldier).isA(KINDS[kind]) ? soldier : NONE;
    }

    public int move(int soldier, int cell) {
        Troops troops = game.troops;
        if (!troops.has(soldier) || !rug.has(cell)) {
            return UNKNOWN;
        }
        if (!troops.isFree(cell)) {
            return STATE;
        }
        int left = troops.cells[soldier];
        troops.cells[soldier] = cell;
        return left;
    }

    public int tenths(int a, int b) {
        if (!game.troops.has(a) || !game.troops.has(b)) {
            return UNKNOWN;
        }
        return game.troops.chance(a, b);
    }

    public int shoot(int a, int b, boolean hits) {
        if (!game.troops.has(a) || !game.troops.has(b)) {
            return UNKNOWN;
        }
        if (game.troops.chance(a, b) == 0) {
            return STATE;
        }
        return game.play(a, b, hits);
    }

    public int dinner() {
        return game.troops.standUp();
    }

    // ---- what would be

    public int watch(int what) {
        if (what != 0 && what != 1) {
            return OUTSIDE;
        }
        if (!rug.laid || watchesDone >= MOST_ASKED) {
            return STATE;
        }
        watchesDone++;
        int watchers = rug.fewestWatchers();
        return what == 0 ? Integer.bitCount(watchers) : watchers;
    }

    public int best(int side, int shots, int what) {
        if (!isSide(side) || shots < 1 || shots > MOST_TURNS || what < 0 || what > 2) {
            return OUTSIDE;
        }
        if (!rug.laid || bestsDone >= MOST_ASKED) {
            return STATE;
        }
        bestsDone++;
        search.look(game.troops, side, shots);
        switch (what) {
            case 0:
                return search.above;
            case 1:
                return search.below;
            default:
                return search.choice;
        }
    }

    // ---- counts

    public int tally(int many) {
        if (many < 0 || many > MOST_SOLDIERS) {
            return OUTSIDE;
        }
        if (game.mornings >= MOST_COUNTS) {
            return FULL;
        }
        return game.tell(many);
    }

    public int forget() {
        int had = game.mornings;
        game.mornings = 0;
        return had;
    }

    public int fits() {
        if (!rug.laid) {
            return STATE;
        }
        nights.unfold(game);
        return nights.allWays();
    }

    public int last(int soldier) {
        if (!game.troops.has(soldier)) {
            return UNKNOWN;
        }
        if (!game.troops.stands[soldier]) {
            return STATE;
        }
        if (game.mornings == 0) {
            return NONE;
        }
        nights.unfold(game);
        return nights.lastSideOf(soldier, game.troops);
    }

    public int afternoons(int times, int seed, int what) {
        if (times < 1 || times > MOST_TIMES || seed < 0 || what < 0 || what > 2) {
            return OUTSIDE;
        }
        if (game.troops.many == 0) {
            return STATE;
        }
        trial.run(game.troops, times, seed);
        switch (what) {
            case 0:
                return trial.changed;
            case 1:
                return trial.troops.peas[0] + trial.troops.peas[1];
            default:
                return trial.seed;
        }
    }

    // ---- what is told of all

    public int image() {
        if (!rug.laid) {
            return STATE;
        }
        kept.copyFrom(game);
        hasImage = true;
        return game.shots;
    }

    public int restore() {
        if (!hasImage) {
            return STATE;
        }
        game.copyFrom(kept);
        return game.shots;
    }

    public int count(int what) {
        switch (what) {
            case 0:
                return rug.openCells();
            case 1:
                return game.troops.peas[0];
            case 2:
                return game.troops.peas[1];
            case 3:
                return game.troops.many;
            case 4:
                return game.troops.standing(0);
            case 5:
                return game.troops.standing(1);
            case 6:
                return game.shots;
            case 7:
                return Integer.bitCount(game.banned);
            case 8:
                return game.breach;
            case 9:
                return game.mornings;
            case 10:
                return page.length;
            case 11:
                return carpetsRead;
            case 12:
                return watchesDone;
            case 13:
                return bestsDone;
            default:
                return OUTSIDE;
        }
    }

    public long digest() {
        long h = digestOfCarpet(839L);
        h = digestOfSoldiers(h);
        for (int place = 0; place < page.length; place++) {
            h = 31L * h + page.letters[place];
        }
        for (int what = 0; what < COUNTED; what++) {
            h = 31L * h + count(what);
        }
        return h;
    }

    private long digestOfCarpet(long start) {
        if (!rug.laid) {
            return start;
        }
        long h = start;
        for (int cell = 0; cell < CELLS; cell++) {
            for (int what = 0; what <= 2; what++) {
                h = 31L * h + cell(cell, what);
            }
        }
        return 31L * h + fits();
    }

    private long digestOfSoldiers(long start) {
        long h = start;
        for (int one = 0; one < game.troops.many; one++) {
            for (int what = 0; what <= 5; what++) {
                h = 31L * h + about(one, what);
            }
            for (int other = 0; other < game.troops.many; other++) {
                h = 31L * h + tenths(one, other);
            }
        }
        return h;
    }

    private static boolean isKind(int kind) {
        return kind >= 0 && kind < KINDS.length;
    }

    private static boolean isSide(int side) {
        return side >= 0 && side < SIDES;
    }

    /** What the kinds differ in. */
    private enum Kind {
        SOLDIER(1, 2), OFFICER(2, 2), SPY(0, 2), GUNNER(1, 1), BENT(2, 2);

        final int hitsToFall;
        final int lossByStep;

        Kind(int hitsToFall, int lossByStep) {
            this.hitsToFall = hitsToFall;
            this.lossByStep = lossByStep;
        }

        boolean isA(Kind other) {
            return this == other || other == SOLDIER || (this == BENT && other == OFFICER);
        }
    }

    /** The letters that wait to be read, and where they stop being a carpet or a treaty. */
    private static final class Page {
        final char[] letters = new char[MOST_LETTERS];
        int length = 0;

        int append(int code) {
            if (length < MOST_LETTERS) {
                letters[length] = (char) code;
                length++;
            }
            return length;
        }

        int empty() {
            int had = length;
            length = 0;
            return had;
        }

        int digitAt(int place) {
            return place >= 0 && place < length ? letters[place] - '0' : 0;
        }

        boolean isCarpet() {
            return length == CARPET_LETTERS && firstFault(CARPET_SORT) == length;
        }

        boolean isTreaty() {
            return length >= 1 && firstFault(TREATY_SORT) == length;
        }

        int firstFault(int sort) {
            for (int place = 0; place < length; place++) {
                boolean fine = sort == CARPET_SORT ? suitsCarpet(place) : suitsTreaty(place);
                if (!fine) {
                    return place;
                }
            }
            return length;
        }

        private boolean suitsCarpet(int place) {
            char sign = letters[place];
            if (place >= CARPET_LETTERS) {
                return false;
            }
            if (place >= CARPET_LETTERS - 2) {
                return sign >= '0' && sign <= '9';
            }
            if (place == CARPET_LETTERS - 3) {
                return sign == ';';
            }
            if (place % (COLUMNS + 1) == COLUMNS) {
                return sign == '/';
            }
            return sign == '.' || sign == '#';
        }

        private boolean suitsTreaty(int place) {
            if (place >= MOST_TREATY_LETTERS || TREATY_LETTERS.indexOf(letters[place]) < 0) {
                return false;
            }
            for (int ahead = 0; ahead < place; ahead++) {
                if (letters[ahead] == letters[place]) {
                    return false;
                }
            }
            return true;
        }
    }

    /** Cells and the lines between them, whatever lies on the carpet. */
    private static final class Grid {
        private Grid() {
        }

        static int rowOf(int cell) {
            return cell / COLUMNS;
        }

        static int columnOf(int cell) {
            return cell % COLUMNS;
        }

        static boolean isInside(int row, int column) {
            return row >= 0 && row < ROWS && column >= 0 && column < COLUMNS;
        }

        static int rowStep(int from, int to) {
            return signOf(rowOf(to) - rowOf(from));
        }

        static int columnStep(int from, int to) {
            return signOf(columnOf(to) - columnOf(from));
        }

        static int distance(int from, int to) {
            int down = Math.abs(rowOf(to) - rowOf(from));
            int right = Math.abs(columnOf(to) - columnOf(from));
            return Math.max(down, right);
        }

        static boolean isDiagonal(int from, int to) {
            return rowStep(from, to) != 0 && columnStep(from, to) != 0;
        }

        /** The cells between both ends of a line, as bits; NONE: no line goes there. */
        static int between(int from, int to) {
            int down = rowOf(to) - rowOf(from);
            int right = columnOf(to) - columnOf(from);
            boolean bends = down != 0 && right != 0 && Math.abs(down) != Math.abs(right);
            if (from == to || bends) {
                return NONE;
            }
            int step = COLUMNS * signOf(down) + signOf(right);
            int length = Math.max(Math.abs(down), Math.abs(right));
            int bits = 0;
            for (int steps = 1; steps < length; steps++) {
                bits |= 1 << (from + steps * step);
            }
            return bits;
        }

        private static int signOf(int number) {
            if (number == 0) {
                return 0;
            }
            return number < 0 ? -1 : 1;
        }
    }

    /** Which cells are open, which are beside cover, and what is seen from each. */
    private static final class Carpet {
        boolean laid = false;
        private int open = 0;
        private int besideCover = 0;
        private final int[] seen = new int[CELLS];
        private int watchers = NONE;

        void lay(Page page) {
            laid = true;
            open = 0;
            for (int cell = 0; cell < CELLS; cell++) {
                int place = Grid.rowOf(cell) * (COLUMNS + 1) + Grid.columnOf(cell);
                if (page.letters[place] == '.') {
                    open |= 1 << cell;
                }
            }
            besideCover = 0;
            for (int cell = 0; cell < CELLS; cell++) {
                seen[cell] = isOpen(cell) ? lookFrom(cell) : 0;
                besideCover |= touchesCover(cell) ? 1 << cell : 0;
            }
            watchers = NONE;
        }

        boolean has(int cell) {
            return laid && cell >= 0 && cell < CELLS;
        }

        boolean isOpen(int cell) {
            return cell >= 0 && cell < CELLS && (open >> cell & 1) == 1;
        }

        int openCells() {
            return Integer.bitCount(open);
        }

        int seenFrom(int cell) {
            return cell >= 0 && cell < CELLS ? seen[cell] : 0;
        }

        boolean hasCoverOn(int cells) {
            return (cells & ~open) != 0;
        }

        boolean hasCoverAround(int cell) {
            return (besideCover >> cell & 1) == 1;
        }

        /** Looked for once a carpet: it can't change until another one is laid. */
        int fewestWatchers() {
            if (watchers == NONE) {
                watchers = findWatchers();
            }
            return watchers;
        }

        private boolean touchesCover(int cell) {
            for (int other = 0; other < CELLS; other++) {
                if (!isOpen(other) && Grid.distance(cell, other) == 1) {
                    return true;
                }
            }
            return false;
        }

        private int lookFrom(int cell) {
            int bits = 1 << cell;
            for (int other = 0; other < CELLS; other++) {
                int between = Grid.between(cell, other);
                if (isOpen(other) && between != NONE && !hasCoverOn(between)) {
                    bits |= 1 << other;
                }
            }
            return bits;
        }

        /** Goes up through the sets of open cells, so of like ones the least bits come first. */
        private int findWatchers() {
            int found = open;
            int fewest = Integer.bitCount(open);
            int cells = 0;
            for (int tries = 0; tries < 1 << CELLS && cells != open; tries++) {
                int many = Integer.bitCount(cells);
                if (many < fewest && seenTogether(cells) == open) {
                    found = cells;
                    fewest = many;
                }
                cells = (cells - open) & open;
            }
            return found;
        }

        private int seenTogether(int cells) {
            int bits = 0;
            for (int cell = 0; cell < CELLS; cell++) {
                if ((cells >> cell & 1) == 1) {
                    bits |= seen[cell];
                }
            }
            return bits;
        }
    }

    /** The soldiers and the peas: what a shot changes, so that it can be tried on a copy. */
    private static final class Troops {
        private final Carpet carpet;
        int many = 0;
        final int[] kinds = new int[MOST_SOLDIERS];
        final int[] sides = new int[MOST_SOLDIERS];
        final int[] cells = new int[MOST_SOLDIERS];
        final int[] hits = new int[MOST_SOLDIERS];
        final boolean[] stands = new boolean[MOST_SOLDIERS];
        final int[] peas = new int[SIDES];

        Troops(Carpet carpet) {
            this.carpet = carpet;
        }

        void clear(int peasOfFirst, int peasOfSecond) {
            many = 0;
            peas[0] = peasOfFirst;
            peas[1] = peasOfSecond;
        }

        void copyFrom(Troops other) {
            many = other.many;
            for (int one = 0; one < MOST_SOLDIERS; one++) {
                kinds[one] = other.kinds[one];
                sides[one] = other.sides[one];
                cells[one] = other.cells[one];
                hits[one] = other.hits[one];
                stands[one] = other.stands[one];
            }
            peas[0] = other.peas[0];
            peas[1] = other.peas[1];
        }

        boolean has(int soldier) {
            return soldier >= 0 && soldier < many && soldier < MOST_SOLDIERS;
        }

        Kind kindOf(int soldier) {
            return has(soldier) && isKind(kinds[soldier]) ? KINDS[kinds[soldier]] : Kind.SOLDIER;
        }

        int whoIsAt(int cell) {
            for (int one = 0; one < many; one++) {
                if (cells[one] == cell) {
                    return one;
                }
            }
            return NONE;
        }

        boolean isFree(int cell) {
            return carpet.isOpen(cell) && whoIsAt(cell) == NONE;
        }

        int enlist(int kind, int side, int cell) {
            if (many >= MOST_SOLDIERS) {
                return FULL;
            }
            int number = many;
            many++;
            kinds[number] = kind;
            sides[number] = side;
            cells[number] = cell;
            hits[number] = 0;
            stands[number] = true;
            return number;
        }

        int standing(int side) {
            int found = 0;
            for (int one = 0; one < many; one++) {
                if (stands[one] && sides[one] == side) {
                    found++;
                }
            }
            return found;
        }

        int targetsOf(int soldier) {
            int found = 0;
            for (int other = 0; other < many; other++) {
                if (chance(soldier, other) > 0) {
                    found++;
                }
            }
            return found;
        }

        /** Tenths by which a hits b; 0 if it cannot shoot at it. */
        int chance(int a, int b) {
            if (!has(a) || !has(b) || !stands[a] || !stands[b] || sides[a] == sides[b]) {
                return 0;
            }
            int between = Grid.between(cells[a], cells[b]);
            if (peas[sides[a]] <= 0 || between == NONE || isBlocked(between)) {
                return 0;
            }
            int loss = kindOf(a).lossByStep * Grid.distance(cells[a], cells[b]);
            if (carpet.hasCoverAround(cells[b])) {
                loss += LOSS_BY_COVER;
            }
            return Math.max(1, SURE - loss);
        }

        /** The caller has seen that a can shoot at b; answers how many fell or went over. */
        int fire(int a, int b, boolean hitsIt) {
            if (!has(a) || !has(b)) {
                return 0;
            }
            peas[sides[a]]--;
            int down = Grid.rowStep(cells[a], cells[b]);
            int right = Grid.columnStep(cells[a], cells[b]);
            int changed = 0;
            int struck = hitsIt ? b : NONE;
            for (int flights = 0; flights < MOST_SOLDIERS && has(struck); flights++) {
                Kind kind = kindOf(struck);
                changed += strike(struck, kind);
                struck = kind == Kind.BENT ? firstBehind(cells[struck], down, right) : NONE;
            }
            return changed;
        }

        int standUp() {
            int risen = 0;
            for (int one = 0; one < many; one++) {
                if (!stands[one]) {
                    risen++;
                }
                stands[one] = true;
                hits[one] = 0;
            }
            return risen;
        }

        private boolean isBlocked(int between) {
            for (int one = 0; one < many; one++) {
                if (stands[one] && (between >> cells[one] & 1) == 1) {
                    return true;
                }
            }
            return carpet.hasCoverOn(between);
        }

        private int strike(int soldier, Kind kind) {
            if (kind == Kind.SPY) {
                sides[soldier] = 1 - sides[soldier];
                return 1;
            }
            hits[soldier]++;
            stands[soldier] = hits[soldier] < kind.hitsToFall;
            return stands[soldier] ? 0 : 1;
        }

        private int firstBehind(int cell, int down, int right) {
            for (int steps = 1; steps < COLUMNS; steps++) {
                int row = Grid.rowOf(cell) + steps * down;
                int column = Grid.columnOf(cell) + steps * right;
                int behind = row * COLUMNS + column;
                if (!Grid.isInside(row, column) || !carpet.isOpen(behind)) {
                    return NONE;
                }
                int there = whoIsAt(behind);
                if (has(there) && stands[there]) {
                    return there;
                }
            }
            return NONE;
        }
    }

    /** All that an image keeps. */
    private static final class Game {
        final Troops troops;
        int shots = 0;
        private int lastSide = NONE;
        int banned = 0;
        int breach = NONE;
        int mornings = 0;
        final int[] counts = new int[MOST_COUNTS];

        Game(Carpet carpet) {
            troops = new Troops(carpet);
        }

        void clear(int peasOfFirst, int peasOfSecond) {
            troops.clear(peasOfFirst, peasOfSecond);
            shots = 0;
            lastSide = NONE;
            banned = 0;
            breach = NONE;
            mornings = 0;
        }

        void copyFrom(Game other) {
            troops.copyFrom(other.troops);
            shots = other.shots;
            lastSide = other.lastSide;
            banned = other.banned;
            breach = other.breach;
            mornings = other.mornings;
            for (int morning = 0; morning < MOST_COUNTS; morning++) {
                counts[morning] = other.counts[morning];
            }
        }

        /** The page has been found to be a treaty; its letters become bits by their place in "odntg". */
        void sign(Page page) {
            banned = 0;
            breach = NONE;
            for (int place = 0; place < page.length; place++) {
                int which = TREATY_LETTERS.indexOf(page.letters[place]);
                banned |= which < 0 ? 0 : 1 << which;
            }
        }

        int play(int a, int b, boolean hits) {
            shots++;
            if (breach == NONE && isForbidden(a, b)) {
                breach = shots;
            }
            lastSide = troops.sides[a];
            return troops.fire(a, b, hits);
        }

        int tell(int many) {
            if (mornings < MOST_COUNTS) {
                counts[mornings] = many;
                mornings++;
            }
            return mornings;
        }

        private boolean isForbidden(int a, int b) {
            int from = troops.cells[a];
            int to = troops.cells[b];
            return (bans('o') && troops.kindOf(b).isA(Kind.OFFICER))
                || (bans('d') && Grid.isDiagonal(from, to))
                || (bans('n') && Grid.distance(from, to) == 1)
                || (bans('t') && troops.sides[a] == lastSide)
                || (bans('g') && troops.kindOf(a) == Kind.GUNNER);
        }

        private boolean bans(char letter) {
            int which = TREATY_LETTERS.indexOf(letter);
            return which >= 0 && (banned >> which & 1) == 1;
        }
    }

    /** Looks ahead by turns; means are held as whole numbers, ten times as much for each turn left. */
    private static final class Search {
        private final Troops[] copies = new Troops[MOST_TURNS];
        private int first = 0;
        int above = 0;
        int below = 1;
        int choice = NONE;

        Search(Carpet carpet) {
            for (int turn = 0; turn < MOST_TURNS; turn++) {
                copies[turn] = new Troops(carpet);
            }
        }

        void look(Troops now, int side, int turns) {
            first = side;
            above = mean(now, side, turns);
            below = 1;
            for (int turn = 0; turn < turns; turn++) {
                below *= SURE;
            }
            int divisor = commonDivisor(Math.abs(above), below);
            if (divisor > 0) {
                above /= divisor;
                below /= divisor;
            }
        }

        /** The outermost turn writes choice last, so what stays there is the first shot. */
        private int mean(Troops now, int side, int left) {
            if (left <= 0 || left > MOST_TURNS) {
                return now.standing(first) - now.standing(1 - first);
            }
            int found = SURE * mean(now, 1 - side, left - 1);
            int chosen = NONE;
            int missed = meanOfMiss(now, side, left);
            for (int pair = 0; pair < MOST_SOLDIERS * MOST_SOLDIERS; pair++) {
                int a = pair / MOST_SOLDIERS;
                int b = pair % MOST_SOLDIERS;
                int chance = now.has(a) && now.sides[a] == side ? now.chance(a, b) : 0;
                if (chance == 0) {
                    continue;
                }
                int tried = chance * meanOfHit(now, a, b, left) + (SURE - chance) * missed;
                if (side == first ? tried > found : tried < found) {
                    found = tried;
                    chosen = pair;
                }
            }
            choice = chosen;
            return found;
        }

        /** Whoever misses whom, only a pea is gone: one look serves for all misses of a turn. */
        private int meanOfMiss(Troops now, int side, int left) {
            if (now.peas[side] <= 0) {
                return 0;
            }
            Troops then = copies[left - 1];
            then.copyFrom(now);
            then.peas[side]--;
            return mean(then, 1 - side, left - 1);
        }

        private int meanOfHit(Troops now, int a, int b, int left) {
            Troops then = copies[left - 1];
            then.copyFrom(now);
            then.fire(a, b, true);
            return mean(then, 1 - now.sides[a], left - 1);
        }

        private static int commonDivisor(int one, int other) {
            int large = one;
            int small = other;
            for (int steps = 0; steps < 64 && small != 0; steps++) {
                int rest = large % small;
                large = small;
                small = rest;
            }
            return large;
        }
    }

    /** In how many ways the counts can be so, for each set of spies that are of side 0 at the last. */
    private static final class Nights {
        private static final int SETS = 1 << MOST_SOLDIERS;

        private int[] ways = new int[SETS];
        private int[] waysBefore = new int[SETS];
        private int spies = 0;
        private int sets = 1;

        void unfold(Game game) {
            Troops troops = game.troops;
            spies = 0;
            int others = 0;
            for (int one = 0; one < troops.many; one++) {
                if (troops.kindOf(one) == Kind.SPY) {
                    spies++;
                } else if (troops.stands[one] && troops.sides[one] == 0) {
                    others++;
                }
            }
            if (game.mornings == 0) {
                startUntold();
                return;
            }
            sets = 1 << spies;
            for (int morning = 0; morning < game.mornings; morning++) {
                wake(morning, game.counts[morning] - others);
            }
        }

        int allWays() {
            int sum = 0;
            for (int set = 0; set < sets; set++) {
                sum += ways[set];
            }
            return sum;
        }

        int lastSideOf(int soldier, Troops troops) {
            int waysToFirst = 0;
            int waysToSecond = 0;
            for (int set = 0; set < sets; set++) {
                if (sideIn(set, soldier, troops) == 0) {
                    waysToFirst += ways[set];
                } else {
                    waysToSecond += ways[set];
                }
            }
            if ((waysToFirst > 0) == (waysToSecond > 0)) {
                return NONE;
            }
            return waysToFirst > 0 ? 0 : 1;
        }

        /** With no count told the document wants one way, not one for each set of spies. */
        private void startUntold() {
            sets = 1;
            ways[0] = 1;
        }

        private void wake(int morning, int spiesNeeded) {
            int[] swapped = waysBefore;
            waysBefore = ways;
            ways = swapped;
            for (int set = 0; set < sets; set++) {
                ways[set] = 0;
                if (Integer.bitCount(set) == spiesNeeded) {
                    ways[set] = morning == 0 ? 1 : waysInto(set);
                }
            }
        }

        private int waysInto(int set) {
            int sum = waysBefore[set];
            for (int spy = 0; spy < spies; spy++) {
                sum += waysBefore[set ^ (1 << spy)];
            }
            return sum;
        }

        private static int sideIn(int set, int soldier, Troops troops) {
            if (troops.kindOf(soldier) != Kind.SPY) {
                return troops.sides[soldier];
            }
            int spiesAhead = 0;
            for (int one = 0; one < soldier; one++) {
                if (troops.kindOf(one) == Kind.SPY) {
                    spiesAhead++;
                }
            }
            return (set >> spiesAhead & 1) == 1 ? 0 : 1;
        }
    }

    /** Afternoons on a copy, by draws. */
    private static final class Trial {
        final Troops troops;
        int seed = 0;
        int changed = 0;

        Trial(Carpet carpet) {
            troops = new Troops(carpet);
        }

        void run(Troops now, int times, int firstSeed) {
            troops.copyFrom(now);
            seed = firstSeed;
            changed = 0;
            for (int time = 0; time < times; time++) {
                int a = draw(troops.many);
                int b = draw(troops.many);
                int chance = troops.chance(a, b);
                if (chance > 0) {
                    changed += troops.fire(a, b, draw(SURE) < chance);
                }
            }
        }

        private int draw(int many) {
            seed = (int) ((1103515245L * seed + 12345L) & 0x7FFFFFFFL);
            return many > 0 ? (seed >> 16) % many : 0;
        }
    }
}
