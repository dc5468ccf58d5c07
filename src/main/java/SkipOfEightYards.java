/** A skip, one's own things, the neighbours who throw in by night, and the texts that rule them. */
public final class SkipOfEightYards {
    public static final int NONE = -1, BAD = -2, STATE = -3, FULL = -4;
    public static final long NO = -4611686018427387904L;

    private static final int NOTHING_THERE = -11, OUTSIDE = -12, OTHER_SORT = -13, BELOW_0 = -14;
    private static final int NO_SUCH = -1000, FAULT = -100;

    private static final int MOST_THINGS = 8, MOST_NEIGHBOURS = 5, MOST_TEXTS = 6, MOST_BYTES = 160;
    private static final int SHEETS = 4, MOST_CELLS = 40, MOST_TOLD = 20;
    private static final int MOST_NIGHTS = 30, MOST_TRIED = 7, CHANCE_NIGHTS = 5, MOST_SEEDS = 20;
    private static final int LAST_NIGHT = 999, MOST_AMOUNT = 999, MOST_READY = 99, MOST_BULK = 99;
    private static final int MOST_NUMBER = 9, MOST_THROWN = 99, MOST_PAID = 9, MINES = 100;
    private static final int ALL_COVERED = 1073741823;

    private static final int NEIGHBOUR = 0, ASKER = 1, THIEF = 2, FRIEND = 3, DEALER = 4, GHOST = 5;
    private static final int KINDS = 6;
    private static final int[] KIND_ABOVE = {NONE, NEIGHBOUR, NEIGHBOUR, ASKER, THIEF, NEIGHBOUR};

    private static final int BYTES = 0, SHORTS = 1, INTS = 2;

    private static final int THROWS_PART = 0, COMES_PART = 1, PAYS_PART = 2, PARTS = 3;
    private static final int NAMES = 6;

    private final Texts texts;
    private final Reader reader;
    private final Skip now;
    private final Skip image;
    /** thoughts[k]: the skip in thought, k nights on where each way is tried; [0] serves all else. */
    private final Skip[] thoughts;
    private final Choice choice;
    private final Sheet[] sheets;
    private boolean imageKept;

    public SkipOfEightYards() {
        texts = new Texts();
        reader = new Reader();
        now = new Skip(texts);
        image = new Skip(texts);
        thoughts = new Skip[MOST_TRIED + 1];
        for (int i = 0; i < thoughts.length; i++) thoughts[i] = new Skip(texts);
        choice = new Choice();
        sheets = new Sheet[SHEETS];
        for (int i = 0; i < sheets.length; i++) sheets[i] = new Sheet();
    }

    // ---- the skip, things, neighbours

    public int set(int what, int of, int v) {
        if (what < 0 || what > 7 || !now.knows(what, of) || !within(v, 0, mostOf(what))) return NO_SUCH;
        int was = now.amount(what, of);
        now.become(what, of, v);
        return was;
    }

    private static int mostOf(int what) {
        switch (what) {
            case 0: return LAST_NIGHT;
            case 2: return 1;
            case 5: return MOST_READY;
            case 6: return MOST_NUMBER;
            case 7: return 1;
            default: return MOST_AMOUNT;
        }
    }

    private static boolean within(int v, int least, int most) {
        return v >= least && v <= most;
    }

    public int thing(int bulk, int ready) {
        if (!within(bulk, 1, MOST_BULK) || !within(ready, 0, MOST_READY)) return BAD;
        return now.addThing(bulk, ready);
    }

    public int neighbour(int kind, int number) {
        return settle(kind, number);
    }

    private int settle(int kind, int number) {
        if (!within(kind, 0, KINDS - 1) || !within(number, 0, MOST_NUMBER)) return BAD;
        return now.addNeighbour(kind, number);
    }

    public int told(int of, int what) {
        return now.knows(what, of) ? now.amount(what, of) : NO_SUCH;
    }

    public int pays(int one, int much) {
        if (!now.hasNeighbour(one) || !within(much, 0, MOST_THROWN)) return NO_SUCH;
        return now.paying(one, much);
    }

    // ---- texts

    public int feed(int letter) {
        if (!within(letter, 0, 255)) return BAD;
        return reader.append(letter);
    }

    public int text() {
        if (texts.size >= MOST_TEXTS) return FULL;
        int fault = reader.read(texts.steps[texts.size], texts.ends[texts.size]);
        reader.size = 0;
        if (fault != NONE) return FAULT - fault;
        texts.size++;
        return texts.size - 1;
    }

    public int force(int text) {
        if (!within(text, 0, texts.size - 1)) return BAD;
        int was = now.rule;
        now.rule = text;
        return was;
    }

    // ---- nights

    public int night(int covered) {
        if (!within(covered, 0, 1)) return BAD;
        if (now.night >= LAST_NIGHT) return STATE;
        return now.pass(covered == 1);
    }

    public int load(int thing) {
        if (!now.hasThing(thing)) return BAD;
        if (!now.takes(thing)) return STATE;
        now.putIn(thing);
        return now.room();
    }

    public int run(int n, int covered, int what) {
        if (!within(n, 0, MOST_NIGHTS) || !within(covered, 0, ALL_COVERED) || !within(what, 0, 5)) return BAD;
        Skip skip = thoughts[0];
        skip.becomeAs(now);
        int paid = skip.passAll(n, covered);
        switch (what) {
            case 0: return skip.full();
            case 1: return skip.mine;
            case 2: return skip.theirs;
            case 3: return paid;
            case 4: return skip.left();
            default: return skip.in;
        }
    }

    // ---- what would be best

    public int cover(int n, int what) {
        if (!within(n, 0, MOST_TRIED) || !within(what, 0, 1)) return BAD;
        choice.begin();
        thoughts[0].becomeAs(now);
        tryCovers(0, n, 0);
        return what == 0 ? choice.which : choice.first;
    }

    /** Tries both ways of each night from the k-th to the n-th, the nights ahead having passed as bits tell. */
    private void tryCovers(int k, int n, int bits) {
        Skip here = thoughts[k];
        if (k >= n || k + 1 >= thoughts.length) {
            choice.offer(here.left(), Integer.bitCount(bits), bits);
            return;
        }
        for (int covered = 0; covered < 2; covered++) {
            thoughts[k + 1].becomeAs(here);
            thoughts[k + 1].pass(covered == 1);
            tryCovers(k + 1, n, bits | covered << k);
        }
    }

    public int ask(int n, int what) {
        if (!within(n, 0, MOST_TRIED) || !within(what, 0, 2)) return BAD;
        choice.begin();
        Skip skip = thoughts[0];
        for (int bits = 0; bits < 1 << now.neighbours; bits++) {
            skip.becomeAs(now);
            skip.asked = bits;
            int paid = skip.passAll(n, 0);
            choice.offer(skip.left(), -paid, bits);
        }
        if (what == 0) return choice.which;
        return what == 1 ? choice.first : -choice.second;
    }

    public int best(int what) {
        choice.begin();
        switch (what) {
            case 0: tryPacks(); return choice.which;
            case 1: tryPacks(); return -choice.first;
            case 2: tryDelays(); return choice.which;
            case 3: tryDelays(); return choice.first;
            case 4: tryThrowers(); return choice.which;
            case 5: tryThrowers(); return -choice.first;
            default: return NO_SUCH;
        }
    }

    private void tryPacks() {
        int room = now.room();
        for (int bits = 0; bits < 1 << now.things; bits++) {
            int bulk = now.bulkOf(bits);
            if ((bits & now.in) == 0 && bulk <= room) choice.offer(-bulk, 0, bits);
        }
    }

    private void tryDelays() {
        Skip skip = thoughts[0];
        for (int delay = 0; delay <= MOST_TRIED; delay++) {
            skip.becomeAs(now);
            skip.night += delay;
            skip.passAll(MOST_TRIED, 0);
            choice.offer(skip.left(), 0, delay);
        }
    }

    private void tryThrowers() {
        for (int one = 0; one < now.neighbours; one++) choice.offer(-now.throwing(one, false), 0, one);
    }

    public long share(int part) {
        if (!within(part, 0, 1) || now.full() == 0) return NO;
        return lowest(now.mine, now.full(), part);
    }

    /** A part of above / below in lowest terms; below is more than 0. */
    private static long lowest(int above, int below, int part) {
        int divisor = commonDivisor(above, below);
        if (divisor == 0) return NO;
        return (part == 0 ? above : below) / divisor;
    }

    private static int commonDivisor(int a, int b) {
        for (int turn = 0; turn < 64 && b != 0; turn++) {
            int rest = a % b;
            a = b;
            b = rest;
        }
        return a;
    }

    // ---- throwing that was told

    public int tells(int sheet, int one, int what) {
        Sheet row = sheetAt(sheet);
        if (row == null || !now.hasNeighbour(one) || !within(what, 0, 7)) return BAD;
        if (row.isMissing()) return NOTHING_THERE;
        if (row.size > MOST_TOLD) return BAD;
        switch (what) {
            case 0:
                thoughts[0].becomeAs(now);
                return firstOtherwise(row, one);
            case 1: return fittingBits(row, one, what, KINDS);
            case 2: return fittingBits(row, one, what, MOST_NUMBER + 1);
            case 3: return fittingMines(row, one);
            case 4: return leastFittingMine(row, one);
            case 5: return fittingBits(row, one, what, texts.size);
            case 6: return fittingBits(row, one, what, now.neighbours);
            default: return fittingBits(row, one, what, 2);
        }
    }

    /** The first item that isn't what one of thoughts[0] throws that many nights on from now. */
    private int firstOtherwise(Sheet row, int one) {
        Skip skip = thoughts[0];
        for (int i = 0; i < row.size; i++) {
            skip.night = now.night + i;
            if (skip.throwing(one, false) != row.cells[i]) return i;
        }
        return NONE;
    }

    /** Whether all would be as the sheet tells, were what tells() asks for v. */
    private boolean fits(Sheet row, int one, int what, int v) {
        Skip skip = thoughts[0];
        skip.becomeAs(now);
        int who = one;
        switch (what) {
            case 1: skip.kind[one] = v; break;
            case 2: skip.number[one] = v; break;
            case 3: skip.mine = v; break;
            case 5: skip.rule = v; break;
            case 6: who = v; break;
            default: skip.becomeAsked(one, v); break;
        }
        return firstOtherwise(row, who) == NONE;
    }

    private int fittingBits(Sheet row, int one, int what, int many) {
        int bits = 0;
        for (int v = 0; v < many; v++) {
            if (fits(row, one, what, v)) bits |= 1 << v;
        }
        return bits;
    }

    private int fittingMines(Sheet row, int one) {
        int many = 0;
        for (int mine = 0; mine < MINES; mine++) {
            if (fits(row, one, 3, mine)) many++;
        }
        return many;
    }

    private int leastFittingMine(Sheet row, int one) {
        for (int mine = 0; mine < MINES; mine++) {
            if (fits(row, one, 3, mine)) return mine;
        }
        return NONE;
    }

    public int film(int sheet, int one, int n) {
        Sheet row = sheetAt(sheet);
        if (row == null || !now.hasNeighbour(one) || !within(n, 0, MOST_TOLD)) return BAD;
        row.become(BYTES, n);
        Skip skip = thoughts[0];
        skip.becomeAs(now);
        for (int i = 0; i < n; i++) {
            row.put(i, skip.throwing(one, false));
            skip.night++;
        }
        return n;
    }

    public int drawn(int seed, int n) {
        if (!within(n, 0, MOST_NIGHTS)) return BAD;
        return leftDrawn(seed, n);
    }

    private int leftDrawn(int seed, int n) {
        Skip skip = thoughts[0];
        skip.becomeAs(now);
        int z = seed;
        for (int i = 0; i < n; i++) {
            z = z * 1103515245 + 12345;
            skip.pass((z >>> 9) % 2 == 1);
        }
        return skip.left();
    }

    public long chance(int seed, int m, int k, int part) {
        if (!within(m, 1, MOST_SEEDS) || !within(k, 0, MOST_AMOUNT) || !within(part, 0, 1)) return NO;
        int many = 0;
        for (int i = 0; i < m; i++) {
            if (leftDrawn(seed + i, CHANCE_NIGHTS) <= k) many++;
        }
        return lowest(many, m, part);
    }

    public int image() {
        image.becomeAs(now);
        imageKept = true;
        return now.neighbours;
    }

    public int back() {
        if (!imageKept) return STATE;
        now.becomeAs(image);
        return now.neighbours;
    }

    public int count(int what) {
        switch (what) {
            case 0: return now.neighbours;
            case 1: return now.things;
            case 2: return now.night;
            case 3: return texts.size;
            case 4: return reader.size;
            case 5: return now.rule;
            default: return BAD;
        }
    }

    // ---- the host

    private Sheet sheetAt(int sheet) {
        return within(sheet, 0, SHEETS - 1) ? sheets[sheet] : null;
    }

    public int sheet(int sheet, int sort, int n) {
        Sheet row = sheetAt(sheet);
        if (row == null || !within(sort, NONE, INTS)) return BAD;
        if (sort == NONE) {
            row.become(NONE, 0);
            return 1;
        }
        if (n > MOST_CELLS) return BAD;
        if (n < 0) return BELOW_0;
        row.become(sort, n);
        return 1;
    }

    public int cell(int sheet, int i, int v) {
        Sheet row = sheetAt(sheet);
        if (row == null) return BAD;
        if (row.isMissing()) return NOTHING_THERE;
        if (!row.has(i)) return OUTSIDE;
        row.put(i, v);
        return 1;
    }

    public int copy(int sheet, int i, int other, int j, int n) {
        Sheet source = sheetAt(sheet);
        Sheet target = sheetAt(other);
        if (source == null || target == null) return BAD;
        if (source.isMissing() || target.isMissing()) return NOTHING_THERE;
        if (source.sort != target.sort) return OTHER_SORT;
        if (!source.hasRange(i, n) || !target.hasRange(j, n)) return OUTSIDE;
        System.arraycopy(source.cells, i, target.cells, j, n);
        return n;
    }

    public int street(int sheet, int sort, int from, int n) {
        Sheet row = sheetAt(sheet);
        if (row == null || !within(sort, BYTES, INTS) || !within(n, 0, MOST_NEIGHBOURS)) return BAD;
        if (row.isMissing()) return NOTHING_THERE;
        if (row.sort != sort) return OTHER_SORT;
        int came = 0;
        int at = from;
        for (int k = 0; k < n; k++) {
            if (!row.hasRange(at, 2)) return OUTSIDE;
            if (settle(row.cells[at], row.cells[at + 1]) >= 0) came++;
            at += 2;
        }
        return came;
    }

    public int taken(int one, int k) {
        if (!within(k, 0, KINDS - 1)) return BAD;
        if (!now.hasNeighbour(one)) return NOTHING_THERE;
        return isUnder(now.kind[one], k) ? now.number[one] : OTHER_SORT;
    }

    private static boolean isUnder(int kind, int above) {
        int at = kind;
        for (int step = 0; step < KINDS && within(at, 0, KINDS - 1); step++) {
            if (at == above) return true;
            at = KIND_ABOVE[at];
        }
        return false;
    }

    /** All that an image keeps: the skip, its things, its neighbours, as they are now or in thought. */
    private static final class Skip {
        private final Texts texts;
        private final int[] bulk = new int[MOST_THINGS];
        private final int[] ready = new int[MOST_THINGS];
        private final int[] kind = new int[MOST_NEIGHBOURS];
        private final int[] number = new int[MOST_NEIGHBOURS];
        private int night;
        private int size = 100;
        private int lamp;
        private int mine;
        private int theirs;
        private int rule;
        private int things;
        /** Which things are in it, as bits. */
        private int in;
        private int neighbours;
        /** Who was asked, as bits. */
        private int asked;

        Skip(Texts texts) {
            this.texts = texts;
        }

        void becomeAs(Skip other) {
            System.arraycopy(other.bulk, 0, bulk, 0, MOST_THINGS);
            System.arraycopy(other.ready, 0, ready, 0, MOST_THINGS);
            System.arraycopy(other.kind, 0, kind, 0, MOST_NEIGHBOURS);
            System.arraycopy(other.number, 0, number, 0, MOST_NEIGHBOURS);
            night = other.night;
            size = other.size;
            lamp = other.lamp;
            mine = other.mine;
            theirs = other.theirs;
            rule = other.rule;
            things = other.things;
            in = other.in;
            neighbours = other.neighbours;
            asked = other.asked;
        }

        boolean hasThing(int thing) {
            return thing >= 0 && thing < things;
        }

        boolean hasNeighbour(int one) {
            return one >= 0 && one < neighbours;
        }

        int addThing(int newBulk, int newReady) {
            if (things >= MOST_THINGS) return FULL;
            bulk[things] = newBulk;
            ready[things] = newReady;
            in &= ~(1 << things);
            things++;
            return things - 1;
        }

        int addNeighbour(int newKind, int newNumber) {
            if (neighbours >= MOST_NEIGHBOURS) return FULL;
            kind[neighbours] = newKind;
            number[neighbours] = newNumber;
            becomeAsked(neighbours, 0);
            neighbours++;
            return neighbours - 1;
        }

        /** Whether there is what amount() asks for. */
        boolean knows(int what, int of) {
            switch (what) {
                case 5: case 8: case 9:
                    return hasThing(of);
                case 6: case 7: case 10: case 11: case 12: case 13:
                    return hasNeighbour(of);
                default:
                    return what >= 0 && what <= 16;
            }
        }

        int amount(int what, int of) {
            switch (what) {
                case 0: return night;
                case 1: return size;
                case 2: return lamp;
                case 3: return mine;
                case 4: return theirs;
                case 5: return ready[of];
                case 6: return number[of];
                case 7: return isAsked(of) ? 1 : 0;
                case 8: return bulk[of];
                case 9: return isIn(of) ? 1 : 0;
                case 10: return kind[of];
                case 11: return throwing(of, false);
                case 12: return throwing(of, true);
                case 13: return comes(of) ? 1 : 0;
                case 14: return full();
                case 15: return room();
                default: return left();
            }
        }

        void become(int what, int of, int v) {
            switch (what) {
                case 0: night = v; break;
                case 1: size = v; break;
                case 2: lamp = v; break;
                case 3: mine = v; break;
                case 4: theirs = v; break;
                case 5: ready[of] = v; break;
                case 6: number[of] = v; break;
                default: becomeAsked(of, v); break;
            }
        }

        boolean isIn(int thing) {
            return (in >> thing & 1) == 1;
        }

        boolean isAsked(int one) {
            return (asked >> one & 1) == 1;
        }

        void becomeAsked(int one, int v) {
            asked = asked & ~(1 << one) | v << one;
        }

        int full() {
            return mine + theirs;
        }

        int room() {
            return Math.max(size - full(), 0);
        }

        int bulkOf(int bits) {
            int sum = 0;
            for (int i = 0; i < things; i++) {
                if ((bits >> i & 1) == 1) sum += bulk[i];
            }
            return sum;
        }

        int left() {
            return bulkOf(~in);
        }

        boolean takes(int thing) {
            return !isIn(thing) && bulk[thing] <= room();
        }

        void putIn(int thing) {
            in |= 1 << thing;
            mine += bulk[thing];
        }

        /** So many days and nights, covered as bits tell: what all pay. */
        int passAll(int n, int covered) {
            int paid = 0;
            for (int i = 0; i < n; i++) paid += pass((covered >> i & 1) == 1);
            return paid;
        }

        /** A day and its night: what all pay. */
        int pass(boolean covered) {
            putReadyIn();
            int paid = 0;
            for (int one = 0; one < neighbours; one++) {
                if (!comes(one)) continue;
                int thrown = throwing(one, covered);
                int entering = Math.min(Math.max(thrown, 0), room());
                int leaving = Math.min(Math.max(-thrown, 0), theirs);
                // told before theirs changes: the text may ask how full the skip is
                paid += paying(one, entering);
                theirs += entering - leaving;
            }
            night++;
            return paid;
        }

        private void putReadyIn() {
            for (int i = 0; i < things; i++) {
                if (ready[i] <= night && takes(i)) putIn(i);
            }
        }

        int throwing(int one, boolean covered) {
            int v = ruled(one, THROWS_PART);
            int asNeighbour = covered ? 0 : v;
            int asAsker = isAsked(one) ? 2 * asNeighbour : asNeighbour;
            return bounded(byKind(one, v, asNeighbour, asAsker), -MOST_THROWN, MOST_THROWN);
        }

        private int byKind(int one, int v, int asNeighbour, int asAsker) {
            switch (kind[one]) {
                case ASKER: return asAsker;
                case THIEF: return -v;
                case FRIEND: return Math.min(asAsker, number[one]);
                case DEALER: return night % 2 == 0 ? -2 * v : 0;
                case GHOST: return number[one];
                default: return asNeighbour;
            }
        }

        boolean comes(int one) {
            switch (kind[one]) {
                case ASKER: return isAsked(one) && ruled(one, COMES_PART) != 0;
                case THIEF: return lamp == 0 && ruled(one, COMES_PART) != 0;
                case FRIEND: return true;
                case DEALER: return full() > 50 || lamp == 0 && ruled(one, COMES_PART) != 0;
                case GHOST: return night % 3 == 0;
                default: return ruled(one, COMES_PART) != 0;
            }
        }

        int paying(int one, int much) {
            int asNeighbour = isAsked(one) ? ruled(one, PAYS_PART) * much : 0;
            switch (kind[one]) {
                case THIEF: case GHOST: return 0;
                case DEALER: return number[one];
                case FRIEND: return asNeighbour / 2;
                default: return asNeighbour;
            }
        }

        /** What a part of the rule tells of one, within its bounds; that it comes has none. */
        private int ruled(int one, int part) {
            int[] names = texts.names;
            names[0] = full();
            names[1] = number[one];
            names[2] = night;
            names[3] = lamp;
            names[4] = isAsked(one) ? 1 : 0;
            names[5] = mine;
            int v = texts.value(rule, part);
            switch (part) {
                case THROWS_PART: return bounded(v, -MOST_THROWN, MOST_THROWN);
                case PAYS_PART: return bounded(v, 0, MOST_PAID);
                default: return v;
            }
        }

        private static int bounded(int v, int least, int most) {
            return Math.max(least, Math.min(v, most));
        }
    }

    /** The least of what is offered: by first, then by second, then by which it is. */
    private static final class Choice {
        private int first;
        private int second;
        private int which;

        void begin() {
            first = 0;
            second = 0;
            which = NONE;
        }

        void offer(int newFirst, int newSecond, int newWhich) {
            if (which != NONE && !isLess(newFirst, newSecond, newWhich)) return;
            first = newFirst;
            second = newSecond;
            which = newWhich;
        }

        private boolean isLess(int newFirst, int newSecond, int newWhich) {
            if (newFirst != first) return newFirst < first;
            if (newSecond != second) return newSecond < second;
            return newWhich < which;
        }
    }

    /**
     * The texts, each a row of steps on a stack: a step of 0 or more is a number that is put on it,
     * one below 0 is -1 less the name that is put on it or the token that joins what lies there.
     */
    private static final class Texts {
        private static final int NEGATE = -1000;

        private final int[][] steps = new int[MOST_TEXTS][MOST_BYTES];
        /** Behind which step each part of a text ends. */
        private final int[][] ends = new int[MOST_TEXTS][PARTS];
        private final int[] names = new int[NAMES];
        /** Six levels of brackets with five open signs each and a last number are the most that can lie there. */
        private final int[] stack = new int[32];
        private int size;

        Texts() {
            steps[0][THROWS_PART] = 9;
            steps[0][COMES_PART] = 1;
            steps[0][PAYS_PART] = 1;
            for (int part = 0; part < PARTS; part++) ends[0][part] = part + 1;
            size = 1;
        }

        /** What a part of a text comes to, the names being as in names. */
        int value(int text, int part) {
            int[] row = steps[text];
            int end = ends[text][part];
            int top = 0;
            for (int i = part == 0 ? 0 : ends[text][part - 1]; i < end; i++) {
                int step = row[i];
                if (step >= -NAMES) {
                    if (top >= stack.length) return 0;
                    stack[top] = step >= 0 ? step : names[-1 - step];
                    top++;
                } else if (step == NEGATE || step == -1 - Reader.NOT) {
                    if (top < 1) return 0;
                    stack[top - 1] = step == NEGATE ? -stack[top - 1] : stack[top - 1] == 0 ? 1 : 0;
                } else {
                    if (top < 2) return 0;
                    top--;
                    stack[top - 1] = joined(-1 - step, stack[top - 1], stack[top]);
                }
            }
            return top > 0 ? stack[top - 1] : 0;
        }

        private static int joined(int sign, int a, int b) {
            switch (sign) {
                case '+': return a + b;
                case '-': return a - b;
                case '*': return a * b;
                case '<': return a < b ? 1 : 0;
                case '=': return a == b ? 1 : 0;
                case Reader.AND: return a != 0 && b != 0 ? 1 : 0;
                default: return a != 0 || b != 0 ? 1 : 0;
            }
        }
    }

    /** The tape, and how it is read as a text, token by token. */
    private static final class Reader {
        /** A word's token is its number in here; the first are the names. */
        private static final String WORDS = "full number night lamp asked mine throws comes pays or and not ";
        private static final int THROWS = 6, OR = 9, AND = 10, NOT = 11;
        /** A sign's token is its byte; these are above all bytes. */
        private static final int A_NUMBER = 256, END = 257, WRONG = 258;

        /** The ranks of what a text is made of, from the loosest on. */
        private static final int E_RANK = 0, AND_RANK = 1, NOT_RANK = 2, SUM_RANK = 3, TERM_RANK = 4, ONE_RANK = 5;
        private static final int MOST_OPEN = 5, MOST_DIGITS = 4;

        private final int[] tape = new int[MOST_BYTES];
        private int size;
        private int at;
        private int token;
        private int place;
        private int number;
        private int fault;
        private int made;

        int append(int letter) {
            if (size >= MOST_BYTES) return FULL;
            tape[size] = letter;
            size++;
            return size;
        }

        /** Turns the tape into the steps of a text: NONE, or the place of the fault. */
        int read(int[] steps, int[] ends) {
            at = 0;
            made = 0;
            fault = NONE;
            advance();
            for (int part = 0; part < PARTS; part++) {
                expect(THROWS + part);
                readRank(E_RANK, 0, steps);
                expect(';');
                ends[part] = made;
            }
            expect(END);
            return fault;
        }

        private void expect(int wanted) {
            if (token == wanted) advance();
            else fail();
        }

        /** A wrong token is never gone past, so that the first fault stays. */
        private void fail() {
            if (fault == NONE) fault = place;
            token = WRONG;
        }

        private void readRank(int rank, int open, int[] steps) {
            if (rank >= ONE_RANK) {
                readOne(open, steps);
            } else if (rank == NOT_RANK && token == NOT) {
                readBehind(-1 - NOT, rank, open, steps);
            } else {
                readRank(rank + 1, open, steps);
                readJoined(rank, open, steps);
            }
        }

        private void readJoined(int rank, int open, int[] steps) {
            int most = rank == NOT_RANK ? 1 : MOST_BYTES;
            for (int i = 0; i < most && rankOf(token) == rank; i++) {
                int sign = token;
                advance();
                readRank(rank + 1, open, steps);
                put(-1 - sign, steps);
            }
        }

        private static int rankOf(int sign) {
            switch (sign) {
                case OR: return E_RANK;
                case AND: return AND_RANK;
                case '<': case '=': return NOT_RANK;
                case '+': case '-': return SUM_RANK;
                case '*': return TERM_RANK;
                default: return NONE;
            }
        }

        private void readOne(int open, int[] steps) {
            if (token == A_NUMBER) {
                put(number, steps);
                advance();
            } else if (token < NAMES) {
                put(-1 - token, steps);
                advance();
            } else if (token == '-') {
                readBehind(Texts.NEGATE, ONE_RANK, open, steps);
            } else if (token == '(' && open < MOST_OPEN) {
                advance();
                readRank(E_RANK, open + 1, steps);
                expect(')');
            } else {
                fail();
            }
        }

        /** A not or a -, which stays open till what stands behind it ends. */
        private void readBehind(int step, int rank, int open, int[] steps) {
            if (open >= MOST_OPEN) {
                fail();
                return;
            }
            advance();
            readRank(rank, open + 1, steps);
            put(step, steps);
        }

        private void put(int step, int[] steps) {
            if (made >= steps.length) return;
            steps[made] = step;
            made++;
        }

        private void advance() {
            while (at < size && (tape[at] == 32 || tape[at] == 10)) at++;
            place = at;
            if (at >= size) {
                token = END;
            } else if (isLetter(tape[at])) {
                while (at < size && isLetter(tape[at])) at++;
                token = wordFrom(place, at);
            } else if (isDigit(tape[at])) {
                readNumber();
            } else {
                token = isSign(tape[at]) ? tape[at] : WRONG;
                at++;
            }
        }

        private void readNumber() {
            number = 0;
            while (at < size && isDigit(tape[at])) {
                number = number * 10 + tape[at] - '0';
                at++;
            }
            token = at - place <= MOST_DIGITS ? A_NUMBER : WRONG;
        }

        private int wordFrom(int from, int to) {
            int word = 0;
            int begin = 0;
            for (int i = 0; i < WORDS.length(); i++) {
                if (WORDS.charAt(i) == ' ') {
                    if (i - begin == to - from && isAlike(begin, from, to - from)) return word;
                    word++;
                    begin = i + 1;
                }
            }
            return WRONG;
        }

        private boolean isAlike(int begin, int from, int length) {
            for (int i = 0; i < length; i++) {
                if (WORDS.charAt(begin + i) != tape[from + i]) return false;
            }
            return true;
        }

        private static boolean isLetter(int letter) {
            return letter >= 'a' && letter <= 'z';
        }

        private static boolean isDigit(int letter) {
            return letter >= '0' && letter <= '9';
        }

        private static boolean isSign(int letter) {
            switch (letter) {
                case '(': case ')': case ';': case '+': case '-': case '*': case '<': case '=':
                    return true;
                default:
                    return false;
            }
        }
    }

    /** A row of numbers of a sort, or missing (of sort NONE). */
    private static final class Sheet {
        private final int[] cells = new int[MOST_CELLS];
        private int sort = NONE;
        private int size;

        void become(int newSort, int n) {
            sort = newSort;
            size = Math.min(n, MOST_CELLS);
            for (int i = 0; i < MOST_CELLS; i++) cells[i] = 0;
        }

        boolean isMissing() {
            return sort == NONE;
        }

        boolean has(int i) {
            return i >= 0 && i < size;
        }

        boolean hasRange(int i, int n) {
            return i >= 0 && n >= 0 && n <= size && i <= size - n;
        }

        void put(int i, int v) {
            if (!has(i)) return;
            if (sort == BYTES) cells[i] = (byte) v;
            else if (sort == SHORTS) cells[i] = (short) v;
            else cells[i] = v;
        }
    }
}
