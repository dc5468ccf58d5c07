/** The boundary cases of promises 1 to 6: the skip, things, neighbours. */
public final class SkipBoundaryTest {
    private static final int MIN = Boundary.MIN, MAX = Boundary.MAX;
    private static final int NONE = Boundary.NONE, BAD = Boundary.BAD, FULL = Boundary.FULL, NO_SUCH = Boundary.NO_SUCH;
    private static final int NEIGHBOUR = 0, ASKER = 1, THIEF = 2, FRIEND = 3, DEALER = 4, GHOST = 5;
    private static final String[] WHATS = {"NIGHT", "SIZE", "LAMP", "MINE", "THEIRS", "READY", "NUMBER", "ASKED"};
    private static final int[] MOST = {999, 999, 1, 999, 999, 99, 9, 1};

    private static void newObject() {
        int[] first = {0, 100, 0, 0, 0};
        for (int what = 0; what < first.length; what++) {
            int w = what;
            Boundary.at(1, WHATS[what] + " at first").due(first[what], x -> x.told(0, w));
        }
        Boundary.at(1, "empty: FULL, ROOM, LEFT").due(0, x -> x.told(0, 14)).due(100, x -> x.told(0, 15))
            .due(0, x -> x.told(0, 16));
        Boundary.at(1, "nobody").due(0, x -> x.count(0)).due(NO_SUCH, x -> x.told(0, 6)).due(-11, x -> x.taken(0, 0));
        Boundary.at(1, "no THINGS").due(0, x -> x.count(1)).due(NO_SUCH, x -> x.told(0, 5)).due(BAD, x -> x.load(0));
        Boundary.at(1, "TEXT 0 alone, which is THE RULE").due(1, x -> x.count(3)).due(0, x -> x.count(5)).due(0, x -> x.force(0));
        Boundary.at(1, "THE TAPE is empty").due(0, x -> x.count(4)).due(1, x -> x.feed(32));
        Boundary.at(1, "THE RULE at first: throws 9 ; comes 1 ; pays 1 ;").given(x -> x.neighbour(NEIGHBOUR, 0))
            .given(x -> x.set(7, 0, 1))
            .due(9, x -> x.told(0, 11)).due(1, x -> x.told(0, 13)).due(7, x -> x.pays(0, 7));
        for (int sheet = 0; sheet < 4; sheet++) {
            int s = sheet;
            Boundary.at(1, "SHEET " + sheet + " is missing at first").due(-11, x -> x.cell(s, 0, 0));
        }
        Boundary.at(1, "no IMAGE").due(-3, x -> x.back());
        Boundary.at(1, "an empty skip's nights").due(0, x -> x.run(30, 0, 3)).due(0, x -> x.night(0)).due(1, x -> x.told(0, 0));
        Boundary.at(1, "at most 512 calls: the last").given(x -> manyNights(x, 510))
            .due(0, x -> x.night(0)).due(511, x -> x.told(0, 0));
        Boundary.at(1, "another object's changes are not seen").given(x -> apart()).still(0, x -> x.count(0));
    }

    private static int manyNights(SkipOfEightYards x, int many) {
        for (int i = 0; i < many; i++) x.night(i % 2);
        return many;
    }

    private static long apart() {
        SkipOfEightYards other = new SkipOfEightYards();
        other.neighbour(GHOST, 9);
        other.set(0, 0, 44);
        Boundary.rule(other, "throws 3;comes 0;pays 2;");
        return other.image();
    }

    private static void constants() {
        Boundary.at(1, "NONE").due(-1, x -> SkipOfEightYards.NONE);
        Boundary.at(1, "BAD").due(-2, x -> SkipOfEightYards.BAD);
        Boundary.at(1, "STATE").due(-3, x -> SkipOfEightYards.STATE);
        Boundary.at(1, "FULL").due(-4, x -> SkipOfEightYards.FULL);
        Boundary.at(1, "NO").due(-4611686018427387904L, x -> SkipOfEightYards.NO);
    }

    private static void set() {
        for (int what = 0; what < MOST.length; what++) setWithin(what);
        for (int what : new int[] {-1, 8, 9, 14, MIN, MAX}) {
            Boundary.at(2, "none such: what " + what).furnished().still(NO_SUCH, x -> x.set(what, 0, 0));
        }
        for (int what = 0; what < 5; what++) {
            int w = what;
            for (int of : new int[] {-1, 8, MIN, MAX}) {
                Boundary.at(2, "of " + of + " does not matter for " + WHATS[what]).due(w == 1 ? 100 : 0, x -> x.set(w, of, 1))
                    .due(1, x -> x.told(of, w));
            }
        }
        Boundary.at(2, "SIZE below FULL").given(x -> x.set(3, 0, 30)).due(100, x -> x.set(1, 0, 29)).due(0, x -> x.told(0, 15))
            .due(30, x -> x.told(0, 14));
    }

    private static void setWithin(int what) {
        int most = MOST[what];
        for (int v : new int[] {-1, most + 1, MIN, MAX}) {
            Boundary.at(2, WHATS[what] + " (0 .. " + most + "), v " + v).furnished().still(NO_SUCH, x -> x.set(what, 0, v));
        }
        Boundary.at(2, WHATS[what] + " at most, then at least").furnished().given(x -> x.set(what, 0, 1))
            .due(1, x -> x.set(what, 0, most)).due(most, x -> x.told(0, what))
            .due(most, x -> x.set(what, 0, 0)).due(0, x -> x.told(0, what)).due(0, x -> x.set(what, 0, 0));
    }

    private static void setOfNone() {
        for (int what = 5; what < 8; what++) {
            int w = what;
            Boundary.at(2, "none such: " + WHATS[what] + " in a new object").still(NO_SUCH, x -> x.set(w, 0, 0));
            for (int of : new int[] {-1, what == 5 ? 3 : 4, MIN, MAX}) {
                Boundary.at(2, "none such: " + WHATS[what] + " of " + of).furnished().still(NO_SUCH, x -> x.set(w, of, 0));
            }
        }
        Boundary.at(2, "READY of the eighth, the last").given(x -> Boundary.things(x, 1, 1, 1, 1, 1, 1, 1, 1))
            .due(0, x -> x.set(5, 7, 99)).due(99, x -> x.told(7, 5)).due(0, x -> x.told(6, 5))
            .still(NO_SUCH, x -> x.set(5, 8, 1));
        Boundary.at(2, "NUMBER of the fifth, the last").given(x -> Boundary.neighbours(x, 0, 0, 0, 0, 0))
            .due(4, x -> x.set(6, 4, 9)).due(9, x -> x.told(4, 6)).due(4, x -> x.told(3, 6)).still(NO_SUCH, x -> x.set(6, 5, 1));
        Boundary.at(2, "ASKED of the fifth, the last").given(x -> Boundary.neighbours(x, 0, 0, 0, 0, 0))
            .due(0, x -> x.set(7, 4, 1)).due(1, x -> x.told(4, 7)).due(0, x -> x.told(3, 7)).still(NO_SUCH, x -> x.set(7, 5, 1));
    }

    private static void thing() {
        for (int bulk : new int[] {0, -1, 100, MIN, MAX}) {
            Boundary.at(3, "BULK (1 .. 99): " + bulk).furnished().still(BAD, x -> x.thing(bulk, 0));
        }
        for (int ready : new int[] {-1, 100, MIN, MAX}) {
            Boundary.at(3, "READY (0 .. 99): " + ready).furnished().still(BAD, x -> x.thing(1, ready));
        }
        for (int bulk : new int[] {1, 99}) {
            Boundary.at(3, "BULK (1 .. 99): " + bulk).due(0, x -> x.thing(bulk, 5)).due(bulk, x -> x.told(0, 8))
                .due(5, x -> x.told(0, 5));
        }
        for (int ready : new int[] {0, 99}) {
            Boundary.at(3, "READY (0 .. 99): " + ready).due(0, x -> x.thing(5, ready)).due(ready, x -> x.told(0, 5))
                .due(5, x -> x.told(0, 8));
        }
        Boundary.at(3, "8 at most: the eighth").given(x -> Boundary.things(x, 1, 2, 3, 4, 5, 6, 7)).due(7, x -> x.thing(8, 9))
            .due(8, x -> x.told(7, 8)).due(8, x -> x.count(1));
        Boundary.at(3, "8 at most: a ninth").given(x -> Boundary.things(x, 1, 2, 3, 4, 5, 6, 7, 8))
            .still(FULL, x -> x.thing(1, 0));
        Boundary.at(3, "BAD ahead of FULL: BULK").given(x -> Boundary.things(x, 1, 2, 3, 4, 5, 6, 7, 8))
            .still(BAD, x -> x.thing(0, 0));
        Boundary.at(3, "BAD ahead of FULL: READY").given(x -> Boundary.things(x, 1, 2, 3, 4, 5, 6, 7, 8))
            .still(BAD, x -> x.thing(1, 100));
        Boundary.at(3, "not IN as it comes").due(0, x -> x.thing(1, 0)).due(0, x -> x.told(0, 9)).due(0, x -> x.told(0, 3))
            .due(1, x -> x.told(0, 16));
        Boundary.at(3, "also bulkier than the skip").given(x -> x.set(1, 0, 0)).due(0, x -> x.thing(99, 0))
            .due(99, x -> x.told(0, 16));
    }

    private static void neighbour() {
        for (int kind : new int[] {-1, 6, MIN, MAX}) {
            Boundary.at(4, "KIND (0 .. 5): " + kind).furnished().still(BAD, x -> x.neighbour(kind, 0));
        }
        for (int number : new int[] {-1, 10, MIN, MAX}) {
            Boundary.at(4, "NUMBER (0 .. 9): " + number).furnished().still(BAD, x -> x.neighbour(0, number));
        }
        for (int kind = 0; kind < 6; kind++) {
            int k = kind;
            Boundary.at(4, "KIND (0 .. 5): " + kind).due(0, x -> x.neighbour(k, 3)).due(k, x -> x.told(0, 10))
                .due(3, x -> x.told(0, 6));
        }
        for (int number : new int[] {0, 9}) {
            Boundary.at(4, "NUMBER (0 .. 9): " + number).due(0, x -> x.neighbour(3, number)).due(number, x -> x.told(0, 6))
                .due(3, x -> x.told(0, 10));
        }
        Boundary.at(4, "5 at most: the fifth").given(x -> Boundary.neighbours(x, 0, 1, 2, 3)).due(4, x -> x.neighbour(5, 8))
            .due(5, x -> x.told(4, 10)).due(5, x -> x.count(0));
        Boundary.at(4, "5 at most: a sixth").given(x -> Boundary.neighbours(x, 5, 1, 2, 3, 4))
            .still(FULL, x -> x.neighbour(0, 0));
        Boundary.at(4, "BAD ahead of FULL: KIND").given(x -> Boundary.neighbours(x, 5, 1, 2, 3, 4))
            .still(BAD, x -> x.neighbour(6, 0));
        Boundary.at(4, "BAD ahead of FULL: NUMBER").given(x -> Boundary.neighbours(x, 5, 1, 2, 3, 4))
            .still(BAD, x -> x.neighbour(0, 10));
        Boundary.at(4, "ASKED is 0 as one comes").due(0, x -> x.neighbour(1, 0)).due(0, x -> x.told(0, 7));
        Boundary.at(4, "ASKED is 0 as one comes in another's place").given(x -> x.image()).given(x -> x.neighbour(1, 0))
            .given(x -> x.set(7, 0, 1))
            .given(x -> x.back()).due(0, x -> x.neighbour(1, 0)).due(0, x -> x.told(0, 7));
    }

    private static void told() {
        for (int what : new int[] {-1, 17, MIN, MAX}) {
            Boundary.at(5, "none such: what " + what).furnished().still(NO_SUCH, x -> x.told(0, what));
        }
        for (int what : new int[] {5, 6, 7, 8, 9, 10, 11, 12, 13}) {
            boolean ofThing = what == 5 || what == 8 || what == 9;
            Boundary.at(5, "none such: what " + what + " in a new object").still(NO_SUCH, x -> x.told(0, what));
            for (int of : new int[] {-1, ofThing ? 3 : 4, MIN, MAX}) {
                Boundary.at(5, "none such: what " + what + " of " + of).furnished().still(NO_SUCH, x -> x.told(of, what));
            }
        }
        int[] furnished = {7, 300, 1, 30, 11};
        for (int what = 0; what < furnished.length; what++) ofDoesNotMatter(what, furnished[what]);
        ofDoesNotMatter(14, 41);
        ofDoesNotMatter(15, 259);
        ofDoesNotMatter(16, 29);
        Boundary.at(5, "of the last THING").furnished().due(9, x -> x.told(2, 8)).due(0, x -> x.told(2, 9))
            .due(1, x -> x.told(1, 9)).due(0, x -> x.told(2, 5));
        Boundary.at(5, "of the last NEIGHBOUR").furnished().due(2, x -> x.told(3, 6)).due(1, x -> x.told(3, 7))
            .due(1, x -> x.told(3, 10));
    }

    private static void ofDoesNotMatter(int what, int due) {
        for (int of : new int[] {0, -1, 99, MIN, MAX}) {
            Boundary.at(5, "of " + of + " does not matter for what " + what).furnished().still(due, x -> x.told(of, what));
        }
    }

    private static void fullAndRoom() {
        Boundary.at(5, "FULL at most").given(x -> x.set(3, 0, 999)).given(x -> x.set(4, 0, 999)).due(1998, x -> x.told(0, 14))
            .due(0, x -> x.told(0, 15));
        Boundary.at(5, "ROOM: SIZE is FULL").given(x -> x.set(4, 0, 100)).due(0, x -> x.told(0, 15));
        Boundary.at(5, "ROOM: SIZE is 1 more than FULL").given(x -> x.set(4, 0, 99)).due(1, x -> x.told(0, 15));
        Boundary.at(5, "ROOM: SIZE is 1 less than FULL, 0 at least").given(x -> x.set(4, 0, 101)).due(0, x -> x.told(0, 15));
        Boundary.at(5, "ROOM at most").given(x -> x.set(1, 0, 999)).due(999, x -> x.told(0, 15));
        Boundary.at(5, "SIZE 0").given(x -> x.set(1, 0, 0)).due(0, x -> x.told(0, 15)).due(0, x -> x.told(0, 14));
        Boundary.at(5, "LEFT: all that there can be").given(x -> Boundary.things(x, 99, 99, 99, 99, 99, 99, 99, 99))
            .due(792, x -> x.told(0, 16));
        Boundary.at(5, "LEFT: all is IN").given(x -> Boundary.things(x, 60, 40)).given(x -> x.night(0)).due(0, x -> x.told(0, 16))
            .due(0, x -> x.told(0, 15));
        Boundary.at(5, "LEFT does not look at READY").given(x -> x.thing(7, 99)).due(7, x -> x.told(0, 16));
    }

    /** Each kind, one's number being 4, in an even night; v, then who was asked. */
    private static void throwing() {
        int[][] rows = {
            {99, 0, 99, 99, -99, 4, -99, 4}, {100, 0, 99, 99, -99, 4, -99, 4}, {9999, 1, 99, 99, -99, 4, -99, 4},
            {-99, 0, -99, -99, 99, -99, 99, 4}, {-100, 1, -99, -99, 99, -99, 99, 4}, {-9999, 0, -99, -99, 99, -99, 99, 4},
            {49, 1, 49, 98, -49, 4, -98, 4}, {50, 1, 50, 99, -50, 4, -99, 4}, {50, 0, 50, 50, -50, 4, -99, 4},
            {-49, 1, -49, -98, 49, -98, 98, 4}, {-50, 1, -50, -99, 50, -99, 99, 4}, {-50, 0, -50, -50, 50, -50, 99, 4},
            {0, 1, 0, 0, 0, 0, 0, 4}, {2, 1, 2, 4, -2, 4, -4, 4}, {3, 1, 3, 6, -3, 4, -6, 4}, {1, 1, 1, 2, -1, 2, -2, 4},
            {4, 0, 4, 4, -4, 4, -8, 4}, {5, 0, 5, 5, -5, 4, -10, 4}, {3, 0, 3, 3, -3, 3, -6, 4},
        };
        for (int[] row : rows) {
            for (int kind = 0; kind < 6; kind++) {
                int k = kind;
                boolean blind = kind == THIEF || kind == DEALER || kind == GHOST;
                int covered = blind ? row[2 + kind] : 0;
                String says = "THROWS (-99 .. 99, else the bound): KIND " + kind + ", v " + row[0] + ", ASKED " + row[1];
                Boundary.at(5, says).given(x -> x.neighbour(k, 4)).given(x -> x.set(7, 0, row[1]))
                    .given(x -> Boundary.rule(x, "throws " + row[0] + ";comes 1;pays 1;"))
                    .due(row[2 + kind], x -> x.told(0, 11)).due(covered, x -> x.told(0, 12));
            }
        }
    }

    private static void throwingByNumberAndNight() {
        Boundary.at(5, "FRIEND: NUMBER 0 at most").given(x -> x.neighbour(FRIEND, 0)).due(0, x -> x.told(0, 11))
            .due(0, x -> x.told(0, 12));
        Boundary.at(5, "FRIEND: NUMBER 9 at most, 9 told").given(x -> x.neighbour(FRIEND, 9)).due(9, x -> x.told(0, 11))
            .due(0, x -> x.told(0, 12));
        Boundary.at(5, "FRIEND: NUMBER 8 at most, 9 told").given(x -> x.neighbour(FRIEND, 8)).due(8, x -> x.told(0, 11));
        Boundary.at(5, "FRIEND: as an ASKER, who was ASKED").given(x -> x.neighbour(FRIEND, 9)).given(x -> x.set(7, 0, 1))
            .given(x -> Boundary.rule(x, "throws 4;comes 1;pays 1;")).due(8, x -> x.told(0, 11));
        for (int number : new int[] {0, 9}) {
            Boundary.at(5, "GHOST: NUMBER " + number).given(x -> x.neighbour(GHOST, number)).due(number, x -> x.told(0, 11))
                .due(number, x -> x.told(0, 12));
        }
        for (int night : new int[] {0, 1, 2, 3, 998, 999}) {
            int due = night % 2 == 0 ? -18 : 0;
            Boundary.at(5, "DEALER: in NIGHT " + night).given(x -> x.neighbour(DEALER, 0)).given(x -> x.set(0, 0, night))
                .due(due, x -> x.told(0, 11)).due(due, x -> x.told(0, 12));
        }
    }

    private static void coming() {
        for (String yes : new String[] {"1", "-1", "9", "10", "9999*9999", "0-9999"}) comes(yes, 1);
        for (String no : new String[] {"0", "-0", "7-7", "8192*8192*64"}) comes(no, 0);
        for (int night : new int[] {0, 1, 2, 3, 998, 999}) {
            Boundary.at(5, "GHOST COMES in NIGHT " + night).given(x -> x.neighbour(GHOST, 0)).given(x -> x.set(0, 0, night))
                .due(night % 3 == 0 ? 1 : 0, x -> x.told(0, 13));
        }
        for (int full : new int[] {0, 49, 50, 51, 999}) {
            int due = full > 50 ? 1 : 0;
            Boundary.at(5, "DEALER COMES, if FULL is above 50: lit, FULL " + full).given(x -> x.neighbour(DEALER, 0))
                .given(x -> x.set(2, 0, 1)).given(x -> x.set(4, 0, full))
                .due(due, x -> x.told(0, 13));
            Boundary.at(5, "DEALER COMES, if FULL is above 50: told no, FULL " + full).given(x -> x.neighbour(DEALER, 0))
                .given(x -> x.set(3, 0, full))
                .given(x -> Boundary.rule(x, "throws 9;comes 0;pays 1;")).due(due, x -> x.told(0, 13));
        }
        Boundary.at(5, "DEALER COMES, if FULL is above 50: MINE and THEIRS, together").given(x -> x.neighbour(DEALER, 0))
            .given(x -> x.set(2, 0, 1))
            .given(x -> x.set(3, 0, 25)).given(x -> x.set(4, 0, 25)).due(0, x -> x.told(0, 13)).given(x -> x.set(3, 0, 26))
            .due(1, x -> x.told(0, 13));
    }

    /** What comes tells, for each kind: in night 1, unlit, FULL 0, asked and not, then lit. */
    private static void comes(String told, int yes) {
        int[][] due = {{yes, yes, yes}, {yes, 0, yes}, {yes, yes, 0}, {1, 1, 1}, {yes, yes, 0}, {0, 0, 0}};
        for (int kind = 0; kind < 6; kind++) {
            int[] d = due[kind];
            int k = kind;
            Boundary.at(5, "COMES: KIND " + kind + ", comes " + told).given(x -> x.neighbour(k, 1)).given(x -> x.set(0, 0, 1))
                .given(x -> Boundary.rule(x, "throws 9;comes " + told + ";pays 1;")).given(x -> x.set(7, 0, 1))
                .due(d[0], x -> x.told(0, 13)).given(x -> x.set(7, 0, 0)).due(d[1], x -> x.told(0, 13))
                .given(x -> x.set(7, 0, 1)).given(x -> x.set(2, 0, 1)).due(d[2], x -> x.told(0, 13));
        }
    }

    private static void pays() {
        for (int much : new int[] {-1, 100, MIN, MAX}) {
            Boundary.at(6, "so much (0 .. 99): " + much).furnished().still(NO_SUCH, x -> x.pays(3, much));
        }
        for (int one : new int[] {-1, 4, MIN, MAX}) {
            Boundary.at(6, "none such: " + one).furnished().still(NO_SUCH, x -> x.pays(one, 1));
        }
        Boundary.at(6, "none such: nobody").still(NO_SUCH, x -> x.pays(0, 0));
        Boundary.at(6, "nobody and too much").still(NO_SUCH, x -> x.pays(0, 100));
        Boundary.at(6, "of the fifth, the last").given(x -> Boundary.neighbours(x, 0, 0, 0, 0, 4)).due(4, x -> x.pays(4, 99))
            .still(NO_SUCH, x -> x.pays(5, 99));
        int[][] rows = {{0, 0}, {1, 1}, {9, 9}, {10, 9}, {9999, 9}, {-1, 0}, {-9999, 0}};
        for (int[] row : rows) {
            for (int kind = 0; kind < 6; kind++) paysOf(kind, row[0], row[1]);
        }
    }

    /** For 0, 1, 3 and 99, one's number being 4; not asked, then asked. */
    private static void paysOf(int kind, int told, int v) {
        String says = "pays (0 .. 9, else the bound): KIND " + kind + ", pays " + told;
        Boundary unasked = Boundary.at(6, says + ", not ASKED").given(x -> x.neighbour(kind, 4))
            .given(x -> Boundary.rule(x, "throws 9;comes 1;pays " + told + ";"));
        Boundary asked = Boundary.at(6, says + ", ASKED").given(x -> x.neighbour(kind, 4))
            .given(x -> Boundary.rule(x, "throws 9;comes 1;pays " + told + ";"))
            .given(x -> x.set(7, 0, 1));
        for (int much : new int[] {0, 1, 3, 99}) {
            int[] due = {v * much, v * much, 0, v * much / 2, 4, 0};
            unasked.due(kind == DEALER ? 4 : 0, x -> x.pays(0, much));
            asked.due(due[kind], x -> x.pays(0, much));
        }
    }

    private static void paysCut() {
        Boundary.at(6, "FRIEND: half (cut) of 1").given(x -> x.neighbour(FRIEND, 4)).given(x -> x.set(7, 0, 1))
            .due(0, x -> x.pays(0, 1));
        Boundary.at(6, "FRIEND: half (cut) of 9").given(x -> x.neighbour(FRIEND, 4)).given(x -> x.set(7, 0, 1))
            .due(4, x -> x.pays(0, 9));
        for (int number : new int[] {0, 9}) {
            Boundary.at(6, "DEALER: NUMBER " + number + " more than a THIEF").given(x -> x.neighbour(DEALER, number))
                .due(number, x -> x.pays(0, 0)).due(number, x -> x.pays(0, 99));
        }
    }

    public static void main(String[] args) {
        newObject();
        constants();
        set();
        setOfNone();
        thing();
        neighbour();
        told();
        fullAndRoom();
        throwing();
        throwingByNumberAndNight();
        coming();
        pays();
        paysCut();
        Boundary.end();
    }
}
