/** The boundary cases of promises 24 to 28: the sheets, the street, and kinds that are taken for others. */
public final class HostBoundaryTest {
    private static final int MIN = Boundary.MIN, MAX = Boundary.MAX;
    private static final int NONE = Boundary.NONE, BAD = Boundary.BAD;
    private static final int NOTHING_THERE = Boundary.NOTHING_THERE, OUTSIDE = Boundary.OUTSIDE,
        OTHER_SORT = Boundary.OTHER_SORT, BELOW_0 = Boundary.BELOW_0;
    private static final int BYTES = 0, SHORTS = 1, INTS = 2;
    private static final int[] NO_SHEETS = {-1, 4, MIN, MAX};

    private static void sheet() {
        for (int sheet : NO_SHEETS) {
            Boundary.at(24, "no such SHEET: " + sheet).furnished().still(BAD, x -> x.sheet(sheet, 0, 1))
                .still(BAD, x -> x.sheet(sheet, -1, 0)).still(BAD, x -> x.sheet(sheet, 0, -1));
        }
        for (int sort : new int[] {-2, 3, MIN, MAX}) {
            Boundary.at(24, "no such sort: " + sort).furnished().still(BAD, x -> x.sheet(0, sort, 1));
            Boundary.at(24, "BAD (sort) ahead of -14: " + sort).furnished().still(BAD, x -> x.sheet(0, sort, -1));
        }
        for (int n : new int[] {41, 42, MAX}) Boundary.at(24, "n above 40: " + n).furnished().still(BAD, x -> x.sheet(0, 0, n))
            .still(BAD, x -> x.sheet(3, 2, n));
        for (int n : new int[] {-1, -2, MIN}) Boundary.at(24, "a size below 0: " + n).furnished()
            .still(BELOW_0, x -> x.sheet(0, 0, n)).still(BELOW_0, x -> x.sheet(3, 2, n));
        for (int sort = 0; sort < 3; sort++) {
            int s = sort;
            Boundary.at(24, "a row of none, of sort " + sort).furnished().due(1, x -> x.sheet(3, s, 0))
                .due(OUTSIDE, x -> x.cell(3, 0, 1)).due(0, x -> x.street(3, s, 0, 0));
            Boundary.at(24, "a row of 40, of sort " + sort).furnished().due(1, x -> x.sheet(3, s, 40))
                .due(1, x -> x.cell(3, 39, 1)).due(OUTSIDE, x -> x.cell(3, 40, 1)).due(0, x -> x.street(3, s, 0, 0));
            Boundary.at(24, "all 0, of sort " + sort).furnished().given(x -> Boundary.row(x, 3, s, 7, 7, 7))
                .due(1, x -> x.sheet(3, s, 3)).due(1, x -> x.tells(3, 0, 2));
            Boundary.at(24, "all 0, of another sort ahead: " + sort).furnished()
                .given(x -> Boundary.row(x, 3, (s + 1) % 3, 7, 7, 7)).due(1, x -> x.sheet(3, s, 3)).due(1, x -> x.tells(3, 0, 2));
            Boundary.at(24, "all 0, shorter and longer again: " + sort).furnished().given(x -> Boundary.row(x, 3, s, 7, 7, 7))
                .due(1, x -> x.sheet(3, s, 1)).due(1, x -> x.sheet(3, s, 3)).due(1, x -> x.tells(3, 0, 2));
        }
        for (int n : new int[] {0, -1, 41, MIN, MAX}) {
            Boundary.at(24, "missing: n does not matter: " + n).furnished().due(1, x -> x.sheet(1, -1, n))
                .due(NOTHING_THERE, x -> x.cell(1, 0, 0)).due(1, x -> x.cell(0, 0, 5));
            Boundary.at(24, "missing already: n does not matter: " + n).furnished().still(1, x -> x.sheet(3, -1, n));
        }
        Boundary.at(24, "missing, and there again: all 0").furnished().due(1, x -> x.sheet(1, -1, 0))
            .due(1, x -> x.sheet(1, 1, 2)).due(1, x -> x.tells(1, 0, 2));
        for (int sheet = 0; sheet < 4; sheet++) {
            int s = sheet;
            Boundary.at(24, "SHEET " + sheet + " alone").due(1, x -> x.sheet(s, 0, 1)).due(1, x -> x.cell(s, 0, 1))
                .due(NOTHING_THERE, x -> x.cell(s ^ 1, 0, 1)).due(NOTHING_THERE, x -> x.cell(s ^ 2, 0, 1));
        }
    }

    private static void cell() {
        for (int sheet : NO_SHEETS) Boundary.at(25, "no such SHEET: " + sheet).furnished().still(BAD, x -> x.cell(sheet, 0, 0))
            .still(BAD, x -> x.cell(sheet, -1, 0));
        Boundary.at(25, "-11: it is missing").furnished().still(NOTHING_THERE, x -> x.cell(3, 0, 0));
        Boundary.at(25, "-11 ahead of -12").furnished().still(NOTHING_THERE, x -> x.cell(3, -1, 0))
            .still(NOTHING_THERE, x -> x.cell(3, 40, 0));
        for (int i : new int[] {-1, 4, 39, 40, MIN, MAX}) Boundary.at(25, "a place outside: " + i + " of 4").furnished()
            .still(OUTSIDE, x -> x.cell(0, i, 9));
        Boundary.at(25, "a place outside: 0 of none").furnished().given(x -> x.sheet(3, 0, 0))
            .still(OUTSIDE, x -> x.cell(3, 0, 9));
        Boundary.at(25, "the first and the last of 4").furnished().due(1, x -> x.cell(0, 0, 1)).due(1, x -> x.cell(0, 3, 8))
            .due(1, x -> x.street(0, 0, 0, 1)).due(14, x -> x.told(4, 10) * 10 + x.told(4, 6))
            .due(1, x -> x.cell(0, 2, 3)).given(x -> x.back()).due(1, x -> x.street(0, 0, 2, 1))
            .due(38, x -> x.told(2, 10) * 10 + x.told(2, 6));
    }

    /** What an item is then, by what throws so much; 1000 is none of all that can be thrown. */
    private static void wraps() {
        int[][] rows = {
            {BYTES, 0, 0}, {BYTES, 99, 99}, {BYTES, -99, -99}, {BYTES, 256, 0}, {BYTES, 255, -1}, {BYTES, -256, 0},
            {BYTES, 157, -99}, {BYTES, 256 + 99, 99}, {BYTES, -157, 99}, {BYTES, 65536 + 5, 5},
            {BYTES, 127, 1000}, {BYTES, 128, 1000}, {BYTES, -128, 1000}, {BYTES, -129, 1000}, {BYTES, MAX, -1}, {BYTES, MIN, 0},
            {BYTES, MIN + 7, 7},
            {SHORTS, 99, 99}, {SHORTS, -99, -99}, {SHORTS, 256, 1000}, {SHORTS, 255, 1000}, {SHORTS, 65536, 0},
            {SHORTS, 65535, -1}, {SHORTS, 65536 - 99, -99}, {SHORTS, -65536 + 99, 99},
            {SHORTS, 32767, 1000}, {SHORTS, 32768, 1000}, {SHORTS, -32768, 1000}, {SHORTS, MAX, -1}, {SHORTS, MIN, 0},
            {SHORTS, MIN + 7, 7},
            {INTS, 99, 99}, {INTS, -99, -99}, {INTS, 65536, 1000}, {INTS, 256, 1000}, {INTS, 255, 1000}, {INTS, 65535, 1000},
            {INTS, MAX, 1000}, {INTS, MIN, 1000},
        };
        for (int[] row : rows) {
            int v = row[2] == 1000 ? 77 : row[2];
            int due = row[2] == 1000 ? 0 : NONE;
            Boundary.at(25, "its lowest bits: sort " + row[0] + ", v " + row[1]).given(x -> x.neighbour(0, 0))
                .given(x -> Boundary.rule(x, "throws " + v + ";comes 1;pays 1;")).given(x -> x.sheet(0, row[0], 1))
                .due(1, x -> x.cell(0, 0, row[1])).due(due, x -> x.tells(0, 0, 0));
        }
    }

    private static void refusedCopies() {
        for (int sheet : NO_SHEETS) {
            Boundary.at(26, "no such SHEET: " + sheet).furnished().still(BAD, x -> x.copy(sheet, 0, 0, 0, 1))
                .still(BAD, x -> x.copy(0, 0, sheet, 0, 1));
            Boundary.at(26, "BAD ahead of -11: " + sheet).furnished().still(BAD, x -> x.copy(3, 0, sheet, 0, 1))
                .still(BAD, x -> x.copy(sheet, 0, 3, 0, 1));
            Boundary.at(26, "BAD ahead of -12: " + sheet).furnished().still(BAD, x -> x.copy(0, 0, sheet, 0, -1));
        }
        Boundary.at(26, "-11: the first is missing").furnished().still(NOTHING_THERE, x -> x.copy(3, 0, 0, 0, 1));
        Boundary.at(26, "-11: the second is missing").furnished().still(NOTHING_THERE, x -> x.copy(0, 0, 3, 0, 1));
        Boundary.at(26, "-11: both are missing").furnished().still(NOTHING_THERE, x -> x.copy(3, 0, 3, 0, 1));
        Boundary.at(26, "-11: also none of them").furnished().still(NOTHING_THERE, x -> x.copy(3, 0, 0, 0, 0))
            .still(NOTHING_THERE, x -> x.copy(0, 0, 3, 0, 0));
        Boundary.at(26, "-11 ahead of -12").furnished().still(NOTHING_THERE, x -> x.copy(3, -1, 0, 0, 1))
            .still(NOTHING_THERE, x -> x.copy(0, 9, 3, 0, -1));
        for (int other = 1; other < 3; other++) {
            int o = other;
            Boundary.at(26, "-13: bytes to sort " + other).furnished().given(x -> x.sheet(3, o, 9))
                .still(OTHER_SORT, x -> x.copy(0, 0, 3, 0, 1)).still(OTHER_SORT, x -> x.copy(3, 0, 0, 0, 1));
            Boundary.at(26, "-13 ahead of -12: bytes to sort " + other).furnished().given(x -> x.sheet(3, o, 9))
                .still(OTHER_SORT, x -> x.copy(0, 9, 3, 0, 1)).still(OTHER_SORT, x -> x.copy(0, 0, 3, 0, -1));
            Boundary.at(26, "-13: also none of them, to sort " + other).furnished().given(x -> x.sheet(3, o, 9))
                .still(OTHER_SORT, x -> x.copy(0, 0, 3, 0, 0));
        }
        Boundary.at(26, "-13: shorts and ints").furnished().given(x -> x.sheet(3, 2, 9))
            .still(OTHER_SORT, x -> x.copy(1, 0, 3, 0, 1)).still(OTHER_SORT, x -> x.copy(3, 0, 1, 0, 1));
    }

    /** From a row of 4 to a row of 6, both of bytes: from, to, how many, what is due. */
    private static void placesOfCopies() {
        int[][] outside = {
            {0, 0, -1}, {0, 0, MIN}, {-1, 0, 1}, {0, -1, 1}, {-1, 0, 0}, {0, -1, 0}, {4, 0, 1}, {0, 6, 1}, {5, 0, 0}, {0, 7, 0},
            {0, 0, 5}, {1, 0, 4}, {3, 0, 2}, {0, 3, 4}, {0, 5, 2}, {2, 5, 2},
            {MAX, 0, 1}, {0, MAX, 1}, {0, 0, MAX}, {MAX, MAX, MAX}, {MIN, 0, 1}, {0, MIN, 1}, {MIN, MIN, MIN}, {1, 1, MAX},
            {MAX, 0, 0}, {0, MAX, 0}, {4, 0, MIN}, {5, 0, -1}, {2, 0, MAX}, {MIN, 0, MAX},
        };
        for (int[] o : outside) {
            Boundary.at(26, "a place outside: " + o[0] + " to " + o[1] + ", " + o[2]).furnished()
                .given(x -> Boundary.row(x, 3, BYTES, 1, 1, 1, 1, 1, 1)).still(OUTSIDE, x -> x.copy(0, o[0], 3, o[1], o[2]));
        }
        int[][] inside = {{0, 0, 0}, {4, 0, 0}, {0, 6, 0}, {4, 6, 0}};
        for (int[] i : inside) {
            Boundary.at(26, "none of them: " + i[0] + " to " + i[1]).furnished()
                .given(x -> Boundary.row(x, 3, BYTES, 1, 1, 1, 1, 1, 1)).still(0, x -> x.copy(0, i[0], 3, i[1], i[2]));
        }
        Boundary.at(26, "none of them, of none").furnished().given(x -> x.sheet(3, 0, 0)).still(0, x -> x.copy(3, 0, 3, 0, 0))
            .still(OUTSIDE, x -> x.copy(3, 0, 3, 0, 1));
        copies("all of them", new int[] {1, 2, 3, 4}, 0, 0, 4, 1, 2, 3, 4, 0, 0);
        copies("all of them, to the end", new int[] {1, 2, 3, 4}, 0, 2, 4, 0, 0, 1, 2, 3, 4);
        copies("the last to the first", new int[] {1, 2, 3, 4}, 3, 0, 1, 4, 0, 0, 0, 0, 0);
        copies("the first to the last", new int[] {1, 2, 3, 4}, 0, 5, 1, 0, 0, 0, 0, 0, 1);
        copies("40 of them", new int[40], 0, 0, 40, new int[40]);
    }

    private static void copies(String says, int[] from, int i, int j, int n, int... then) {
        Boundary at = Boundary.at(26, says).furnished().given(x -> Boundary.row(x, 1, SHORTS, from))
            .given(x -> x.sheet(2, SHORTS, then.length)).due(n, x -> x.copy(1, i, 2, j, n));
        holds(at, 2, SHORTS, then);
        holds(at, 1, SHORTS, from);
    }

    /** Asks the first items one by one, by a ghost with such a number. */
    private static void holds(Boundary at, int sheet, int sort, int... items) {
        for (int k = 0; k < Math.min(items.length, 8); k++) {
            int item = k;
            at.given(x -> x.sheet(3, sort, 1)).due(1, x -> x.copy(sheet, item, 3, 0, 1))
                .due(1 << items[item], x -> x.tells(3, 0, 2));
        }
    }

    private static void copiesWithinOne() {
        int[][] rows = {
            {0, 1, 3, 1, 1, 2, 3}, {1, 0, 3, 2, 3, 4, 4}, {0, 0, 4, 1, 2, 3, 4}, {0, 2, 2, 1, 2, 1, 2}, {3, 0, 1, 4, 2, 3, 4},
            {0, 3, 1, 1, 2, 3, 1},
        };
        for (int[] r : rows) {
            for (int sort = 0; sort < 3; sort++) {
                int s = sort;
                Boundary at = Boundary.at(26, "as they were, within one: " + r[0] + " to " + r[1] + ", " + r[2] + ", sort " + sort)
                    .furnished().given(x -> Boundary.row(x, 1, s, 1, 2, 3, 4))
                    .due(r[2], x -> x.copy(1, r[0], 1, r[1], r[2]));
                holds(at, 1, sort, r[3], r[4], r[5], r[6]);
            }
        }
        Boundary.at(26, "as they were: below 0").given(x -> x.neighbour(4, 0)).given(x -> Boundary.row(x, 0, INTS, MIN, -18, MAX))
            .given(x -> x.sheet(1, INTS, 1)).due(1, x -> x.copy(0, 1, 1, 0, 1)).due(NONE, x -> x.tells(1, 0, 0))
            .due(1, x -> x.copy(0, 2, 1, 0, 1)).due(0, x -> x.tells(1, 0, 0));
    }

    private static void refusedStreets() {
        for (int sheet : NO_SHEETS) Boundary.at(27, "no such SHEET: " + sheet).furnished()
            .still(BAD, x -> x.street(sheet, 0, 0, 1));
        for (int sort : new int[] {-1, 3, MIN, MAX}) {
            Boundary.at(27, "no such sort: " + sort).furnished().still(BAD, x -> x.street(0, sort, 0, 1));
            Boundary.at(27, "BAD (sort) ahead of -11: " + sort).furnished().still(BAD, x -> x.street(3, sort, 0, 1));
        }
        for (int n : new int[] {-1, 6, MIN, MAX}) {
            Boundary.at(27, "n (0 .. 5): " + n).furnished().still(BAD, x -> x.street(0, 0, 0, n));
            Boundary.at(27, "BAD (n) ahead of -13: " + n).furnished().still(BAD, x -> x.street(0, 1, 0, n));
            Boundary.at(27, "BAD (n) ahead of -11: " + n).furnished().still(BAD, x -> x.street(3, 0, 0, n));
        }
        for (int sheet = 0; sheet < 3; sheet++) {
            for (int sort = 0; sort < 3; sort++) {
                int s = sheet, o = sort;
                if (s == o) continue;
                Boundary.at(27, "-13: sort " + sheet + " taken for " + sort).furnished()
                    .still(OTHER_SORT, x -> x.street(s, o, 0, 1)).still(OTHER_SORT, x -> x.street(s, o, 0, 0));
                Boundary.at(27, "-13 ahead of -12: sort " + sheet + " taken for " + sort).furnished()
                    .still(OTHER_SORT, x -> x.street(s, o, -1, 1)).still(OTHER_SORT, x -> x.street(s, o, MAX, 5));
            }
        }
        for (int sort = 0; sort < 3; sort++) {
            int s = sort;
            Boundary.at(27, "-11: it is missing, taken for sort " + sort).furnished()
                .still(NOTHING_THERE, x -> x.street(3, s, 0, 1)).still(NOTHING_THERE, x -> x.street(3, s, 0, 0))
                .still(NOTHING_THERE, x -> x.street(3, s, -1, 5));
        }
    }

    private static void placesOfStreets() {
        for (int from : new int[] {-1, -2, 3, 4, 5, 40, MIN, MAX, MAX - 1}) {
            Boundary.at(27, "a place outside: from " + from + " of 4").furnished().still(OUTSIDE, x -> x.street(0, 0, from, 1))
                .still(OUTSIDE, x -> x.street(0, 0, from, 5));
        }
        Boundary.at(27, "a place outside: an empty SHEET").furnished().given(x -> x.sheet(3, 0, 0))
            .still(OUTSIDE, x -> x.street(3, 0, 0, 1)).still(0, x -> x.street(3, 0, 0, 0));
        Boundary.at(27, "a place outside: a SHEET of one").furnished().given(x -> x.sheet(3, 0, 1))
            .still(OUTSIDE, x -> x.street(3, 0, 0, 1));
        Boundary.at(27, "none of them").furnished().still(0, x -> x.street(0, 0, 0, 0)).still(0, x -> x.street(0, 0, 4, 0));
        Boundary.at(27, "the first two").given(x -> Boundary.row(x, 0, 0, 5, 4, 3, 2)).due(1, x -> x.street(0, 0, 0, 1))
            .due(54, x -> pair(x, 0)).due(1, x -> x.count(0));
        Boundary.at(27, "the last two").given(x -> Boundary.row(x, 0, 0, 5, 4, 3, 2)).due(1, x -> x.street(0, 0, 2, 1))
            .due(32, x -> pair(x, 0)).due(1, x -> x.count(0));
        Boundary.at(27, "from one on, two by two").given(x -> Boundary.row(x, 0, 0, 5, 4, 3, 2)).due(1, x -> x.street(0, 0, 1, 1))
            .due(43, x -> pair(x, 0)).due(1, x -> x.count(0));
        Boundary.at(27, "-12: what stood ahead came").given(x -> Boundary.row(x, 0, 0, 5, 4, 3, 2))
            .due(OUTSIDE, x -> x.street(0, 0, 0, 3)).due(2, x -> x.count(0)).due(54, x -> pair(x, 0)).due(32, x -> pair(x, 1));
        Boundary.at(27, "-12: half of two is none").given(x -> Boundary.row(x, 0, 0, 5, 4, 3))
            .due(OUTSIDE, x -> x.street(0, 0, 0, 2)).due(1, x -> x.count(0)).due(54, x -> pair(x, 0));
        Boundary.at(27, "-12: at 40").given(x -> x.sheet(0, 2, 40)).due(OUTSIDE, x -> x.street(0, 2, 38, 2))
            .due(1, x -> x.count(0)).due(1, x -> x.street(0, 2, 38, 1)).due(2, x -> x.count(0))
            .still(OUTSIDE, x -> x.street(0, 2, 39, 1));
    }

    private static int pair(SkipOfEightYards x, int one) {
        return x.told(one, 10) * 10 + x.told(one, 6);
    }

    private static void whoComes() {
        Boundary.at(27, "five").given(x -> Boundary.row(x, 0, 2, 0, 9, 1, 8, 2, 7, 3, 6, 5, 0)).due(5, x -> x.street(0, 2, 0, 5))
            .due(5, x -> x.count(0)).due(9, x -> pair(x, 0)).due(18, x -> pair(x, 1)).due(27, x -> pair(x, 2))
            .due(36, x -> pair(x, 3)).due(50, x -> pair(x, 4));
        Boundary.at(27, "others are left out: KIND 6, below 0")
            .given(x -> Boundary.row(x, 0, 2, 6, 0, -1, 0, 5, 9, MIN, 0, MAX, 0)).due(1, x -> x.street(0, 2, 0, 5))
            .due(1, x -> x.count(0)).due(59, x -> pair(x, 0));
        Boundary.at(27, "others are left out: NUMBER 10, below 0")
            .given(x -> Boundary.row(x, 0, 2, 0, 10, 0, -1, 0, 9, 0, MIN, 0, MAX)).due(1, x -> x.street(0, 2, 0, 5))
            .due(1, x -> x.count(0)).due(9, x -> pair(x, 0));
        Boundary.at(27, "others are left out: all").given(x -> Boundary.row(x, 0, 2, 6, 0, 6, 0, 6, 0, 6, 0, 0, 10))
            .still(0, x -> x.street(0, 2, 0, 5));
        Boundary.at(27, "others are left out: no more has room").given(x -> Boundary.neighbours(x, 5, 1, 2, 3))
            .given(x -> Boundary.row(x, 0, 2, 4, 9, 4, 8)).due(1, x -> x.street(0, 2, 0, 2)).due(5, x -> x.count(0))
            .due(49, x -> pair(x, 4));
        Boundary.at(27, "others are left out: there are 5").given(x -> Boundary.neighbours(x, 5, 1, 2, 3, 4))
            .given(x -> Boundary.row(x, 0, 2, 4, 9, 4, 8)).still(0, x -> x.street(0, 2, 0, 2))
            .still(OUTSIDE, x -> x.street(0, 2, 0, 3));
        Boundary.at(27, "bytes: 256 and more").given(x -> Boundary.row(x, 0, 0, 256 + 5, 512 + 9, 255, 0))
            .due(1, x -> x.street(0, 0, 0, 2)).due(59, x -> pair(x, 0));
        Boundary.at(27, "shorts: 65536 and more").given(x -> Boundary.row(x, 0, 1, 65536 + 5, 131072 + 9, 256, 0))
            .due(1, x -> x.street(0, 1, 0, 2)).due(59, x -> pair(x, 0));
        Boundary.at(27, "as of neighbour(): not ASKED").given(x -> x.image()).given(x -> x.neighbour(0, 0))
            .given(x -> x.set(7, 0, 1)).given(x -> x.back()).given(x -> x.sheet(0, 0, 2)).due(1, x -> x.street(0, 0, 0, 1))
            .due(0, x -> x.told(0, 7));
        Boundary.at(27, "the last SHEET").given(x -> x.sheet(3, 1, 10)).due(5, x -> x.street(3, 1, 0, 5));
    }

    private static void taken() {
        for (int k : new int[] {-1, 6, MIN, MAX}) {
            Boundary.at(28, "KIND k (0 .. 5): " + k).furnished().still(BAD, x -> x.taken(0, k));
            Boundary.at(28, "BAD ahead of -11: " + k).furnished().still(BAD, x -> x.taken(4, k)).still(BAD, x -> x.taken(-1, k));
        }
        for (int one : new int[] {-1, 4, 5, MIN, MAX}) Boundary.at(28, "none such: " + one).furnished()
            .still(NOTHING_THERE, x -> x.taken(one, 0)).still(NOTHING_THERE, x -> x.taken(one, 5));
        Boundary.at(28, "none such: nobody").still(NOTHING_THERE, x -> x.taken(0, 0));
        int[][] under = {{0}, {0, 1}, {0, 2}, {0, 1, 3}, {0, 2, 4}, {0, 5}};
        for (int kind = 0; kind < 6; kind++) {
            for (int k = 0; k < 6; k++) takenFor(kind, k, java.util.Arrays.binarySearch(under[kind], k) >= 0);
        }
        for (int number : new int[] {0, 9}) Boundary.at(28, "the NUMBER " + number).given(x -> x.neighbour(3, number))
            .still(number, x -> x.taken(0, 3)).still(number, x -> x.taken(0, 0));
        Boundary.at(28, "the fifth, the last").given(x -> Boundary.neighbours(x, 5, 5, 5, 5, 3)).still(4, x -> x.taken(4, 1))
            .still(NOTHING_THERE, x -> x.taken(5, 1)).still(OTHER_SORT, x -> x.taken(3, 1));
    }

    private static void takenFor(int kind, int k, boolean is) {
        Boundary.at(28, "of KIND " + kind + ", taken for " + k).given(x -> x.neighbour(kind, 7))
            .still(is ? 7 : OTHER_SORT, x -> x.taken(0, k));
    }

    public static void main(String[] args) {
        sheet();
        cell();
        wraps();
        refusedCopies();
        placesOfCopies();
        copiesWithinOne();
        refusedStreets();
        placesOfStreets();
        whoComes();
        taken();
        Boundary.end();
    }
}
