/** The boundary cases of promises 17 to 23: throwing that was told, nights that are drawn, the image. */
public final class ToldBoundaryTest {
    private static final int MIN = Boundary.MIN, MAX = Boundary.MAX;
    private static final int NONE = Boundary.NONE, BAD = Boundary.BAD, STATE = Boundary.STATE, NO_SUCH = Boundary.NO_SUCH;
    private static final int NOTHING_THERE = Boundary.NOTHING_THERE, OUTSIDE = Boundary.OUTSIDE;
    private static final long NO = Boundary.NO;
    private static final int NEIGHBOUR = 0, ASKER = 1, THIEF = 2, FRIEND = 3, DEALER = 4, GHOST = 5;
    private static final int BYTES = 0, SHORTS = 1, INTS = 2;

    private static void refusedTells() {
        for (int sheet : new int[] {-1, 4, MIN, MAX}) Boundary.at(17, "no such SHEET: " + sheet).furnished()
            .still(BAD, x -> x.tells(sheet, 0, 0));
        for (int one : new int[] {-1, 4, 5, MIN, MAX}) Boundary.at(17, "none such: " + one).furnished()
            .still(BAD, x -> x.tells(0, one, 0));
        for (int what : new int[] {-1, 8, MIN, MAX}) Boundary.at(17, "what (0 .. 7): " + what).furnished()
            .still(BAD, x -> x.tells(0, 0, what));
        for (int what = 0; what < 8; what++) {
            int w = what;
            Boundary.at(17, "nothing where something is asked: what " + what).furnished()
                .still(NOTHING_THERE, x -> x.tells(3, 0, w));
            Boundary.at(17, "it tells more than 20: what " + what).furnished().given(x -> x.sheet(3, 2, 21))
                .still(BAD, x -> x.tells(3, 0, w));
            Boundary.at(17, "it tells 40: what " + what).furnished().given(x -> x.sheet(3, 0, 40))
                .still(BAD, x -> x.tells(3, 0, w));
        }
        Boundary.at(17, "BAD (none such) ahead of -11").furnished().still(BAD, x -> x.tells(3, 4, 0));
        Boundary.at(17, "BAD (what) ahead of -11").furnished().still(BAD, x -> x.tells(3, 0, 8));
        Boundary.at(17, "nobody").given(x -> x.sheet(0, 0, 1)).still(BAD, x -> x.tells(0, 0, 0));
    }

    /** What a sheet tells of one, for all that can be asked. */
    private static Boundary tells(Boundary at, int sheet, int one, int... due) {
        for (int what = 0; what < due.length; what++) {
            int w = what;
            at.still(due[what], x -> x.tells(sheet, one, w));
        }
        return at;
    }

    private static void emptyAndLongest() {
        for (int sort = 0; sort < 3; sort++) {
            int s = sort;
            tells(Boundary.at(17, "an empty SHEET of sort " + sort + " tells all").furnished()
                .given(x -> x.sheet(3, s, 0)), 3, 3, NONE, 63, 1023, 100, 0, 3, 15, 3);
        }
        tells(Boundary.at(17, "20 at most: just as it is").given(x -> x.neighbour(GHOST, 0))
            .given(x -> x.sheet(0, INTS, 20)), 0, 0, NONE, 40, 1, 100, 0, 1, 1, 3);
        for (int i : new int[] {0, 1, 18, 19}) {
            Boundary at = Boundary.at(17, "20 at most: item " + i + " is otherwise").given(x -> x.neighbour(GHOST, 0))
                .given(x -> x.sheet(0, INTS, 20)).given(x -> x.cell(0, i, 1));
            tells(at, 0, 0, i, 0, 0, 0, NONE, 0, 0, 0);
        }
        Boundary.at(17, "the first that is otherwise, of two").given(x -> x.neighbour(GHOST, 3))
            .given(x -> Boundary.row(x, 0, BYTES, 3, 3, 4, 4)).still(2, x -> x.tells(0, 0, 0));
        Boundary.at(17, "in NIGHT 0, 1, .. on from now").given(x -> x.neighbour(NEIGHBOUR, 0)).given(x -> x.set(0, 0, 980))
            .given(x -> Boundary.rule(x, "throws night-980;comes 1;pays 1;"))
            .given(x -> Boundary.row(x, 0, BYTES, 0, 1, 2, 3, 4, 5, 6, 7, 8, 9, 10, 11, 12, 13, 14, 15, 16, 17, 18, 19))
            .still(NONE, x -> x.tells(0, 0, 0)).still(980, x -> x.told(0, 0));
    }

    private static void kindsAndNumbers() {
        int[] due = {7, 7, -7, 3, -14, 3};
        int[] kinds = {3, 3, 4, 40, 16, 40};
        for (int kind = 0; kind < 6; kind++) {
            int d = due[kind];
            Boundary.at(17, "KINDS (bits 0 .. 5): told as of KIND " + kind).given(x -> x.neighbour(NEIGHBOUR, 3))
                .given(x -> Boundary.rule(x, "throws 7;comes 1;pays 1;"))
                .given(x -> Boundary.row(x, 0, BYTES, d)).still(kinds[kind], x -> x.tells(0, 0, 1));
        }
        Boundary.at(17, "KINDS (bits 0 .. 5): all").given(x -> x.neighbour(NEIGHBOUR, 0))
            .given(x -> Boundary.rule(x, "throws 0;comes 1;pays 1;")).given(x -> Boundary.row(x, 0, BYTES, 0, 0))
            .still(63, x -> x.tells(0, 0, 1));
        Boundary.at(17, "KINDS (bits 0 .. 5): none").given(x -> x.neighbour(NEIGHBOUR, 0))
            .given(x -> Boundary.row(x, 0, BYTES, 98)).still(0, x -> x.tells(0, 0, 1));
        for (int number : new int[] {-1, 0, 8, 9, 10}) {
            int bits = number < 0 || number > 9 ? 0 : 1 << number;
            Boundary.at(17, "NUMBERS (bits 0 .. 9): " + number).given(x -> x.neighbour(GHOST, 4))
                .given(x -> Boundary.row(x, 0, INTS, number)).still(bits, x -> x.tells(0, 0, 2));
        }
        Boundary.at(17, "NUMBERS (bits 0 .. 9): all").given(x -> x.neighbour(NEIGHBOUR, 4))
            .given(x -> Boundary.row(x, 0, INTS, 9, 9)).still(1023, x -> x.tells(0, 0, 2));
        Boundary.at(17, "NUMBERS (bits 0 .. 9): a FRIEND's, which are NUMBER at most").given(x -> x.neighbour(FRIEND, 4))
            .given(x -> Boundary.rule(x, "throws 7;comes 1;pays 1;"))
            .given(x -> Boundary.row(x, 0, INTS, 7)).still(896, x -> x.tells(0, 0, 2)).still(0, x -> x.tells(0, 0, 0));
    }

    private static void mines() {
        int[][] rows = {{-1, 0, NONE}, {0, 1, 0}, {1, 1, 1}, {98, 1, 98}, {99, 1, 99}, {100, 0, NONE}};
        for (int[] row : rows) {
            Boundary.at(17, "MINES (of 0 .. 99): " + row[0]).given(x -> x.neighbour(NEIGHBOUR, 0)).given(x -> x.set(3, 0, 500))
                .given(x -> Boundary.rule(x, "throws (mine=" + row[0] + ")*5;comes 1;pays 1;"))
                .given(x -> Boundary.row(x, 0, INTS, 5)).still(row[1], x -> x.tells(0, 0, 3))
                .still(row[2], x -> x.tells(0, 0, 4));
        }
        Boundary.at(17, "MINES (of 0 .. 99): all").given(x -> x.neighbour(NEIGHBOUR, 0)).given(x -> x.set(3, 0, 500))
            .given(x -> Boundary.row(x, 0, INTS, 9)).still(100, x -> x.tells(0, 0, 3)).still(0, x -> x.tells(0, 0, 4));
        Boundary.at(17, "MINES (of 0 .. 99): the least of many").given(x -> x.neighbour(NEIGHBOUR, 0))
            .given(x -> Boundary.rule(x, "throws 90<mine;comes 1;pays 1;"))
            .given(x -> Boundary.row(x, 0, INTS, 1)).still(9, x -> x.tells(0, 0, 3)).still(91, x -> x.tells(0, 0, 4));
        Boundary.at(17, "MINES (of 0 .. 99): FULL goes with it").given(x -> x.neighbour(NEIGHBOUR, 0))
            .given(x -> x.set(4, 0, 900)).given(x -> Boundary.rule(x, "throws full=999;comes 1;pays 1;"))
            .given(x -> Boundary.row(x, 0, INTS, 1)).still(1, x -> x.tells(0, 0, 3)).still(99, x -> x.tells(0, 0, 4))
            .still(0, x -> x.told(0, 3));
        Boundary.at(17, "MINES (of 0 .. 99): also above SIZE").given(x -> x.neighbour(NEIGHBOUR, 0)).given(x -> x.set(1, 0, 0))
            .given(x -> Boundary.row(x, 0, INTS, 9)).still(100, x -> x.tells(0, 0, 3));
    }

    private static void textsNeighboursAsked() {
        Boundary.at(17, "TEXTS (bits): TEXT 0 alone").given(x -> x.neighbour(NEIGHBOUR, 0))
            .given(x -> Boundary.row(x, 0, INTS, 9)).still(1, x -> x.tells(0, 0, 5));
        Boundary.at(17, "TEXTS (bits): six").given(x -> x.neighbour(NEIGHBOUR, 0)).given(x -> sixTexts(x))
            .given(x -> Boundary.row(x, 0, INTS, 9)).still(43, x -> x.tells(0, 0, 5)).still(0, x -> x.count(5));
        Boundary.at(17, "TEXTS (bits): none").given(x -> x.neighbour(NEIGHBOUR, 0)).given(x -> sixTexts(x))
            .given(x -> Boundary.row(x, 0, INTS, 10)).still(0, x -> x.tells(0, 0, 5));
        Boundary.at(17, "NEIGHBOURS (bits): five").given(x -> Boundary.neighbours(x, 0, 0, 2, 1, 0))
            .given(x -> Boundary.row(x, 0, INTS, 9, 9)).still(27, x -> x.tells(0, 2, 6));
        Boundary.at(17, "NEIGHBOURS (bits): all five, none").given(x -> Boundary.neighbours(x, 0, 0, 0, 1, 0))
            .given(x -> Boundary.row(x, 0, INTS, 9)).given(x -> Boundary.row(x, 1, INTS, 8))
            .still(31, x -> x.tells(0, 4, 6)).still(0, x -> x.tells(1, 4, 6));
        Boundary.at(17, "ASKED or not (bits 0, 1): both").given(x -> x.neighbour(NEIGHBOUR, 0))
            .given(x -> Boundary.row(x, 0, INTS, 9)).still(3, x -> x.tells(0, 0, 7));
        Boundary.at(17, "ASKED or not (bits 0, 1): not, though one was").given(x -> x.neighbour(ASKER, 0))
            .given(x -> x.set(7, 0, 1)).given(x -> Boundary.row(x, 0, INTS, 9)).still(1, x -> x.tells(0, 0, 7))
            .still(1, x -> x.told(0, 7));
        Boundary.at(17, "ASKED or not (bits 0, 1): ASKED, though one wasn't").given(x -> x.neighbour(ASKER, 0))
            .given(x -> Boundary.row(x, 0, INTS, 18)).still(2, x -> x.tells(0, 0, 7)).still(0, x -> x.told(0, 7));
        Boundary.at(17, "ASKED or not (bits 0, 1): neither").given(x -> x.neighbour(ASKER, 0))
            .given(x -> Boundary.row(x, 0, INTS, 17)).still(0, x -> x.tells(0, 0, 7));
        Boundary.at(17, "COMES or not").given(x -> x.neighbour(ASKER, 0)).given(x -> Boundary.rule(x, "throws 9;comes 0;pays 1;"))
            .given(x -> Boundary.row(x, 0, INTS, 9)).still(NONE, x -> x.tells(0, 0, 0));
        for (int item : new int[] {MIN, MAX, 65536 + 9, 256 + 9, 100, -100}) {
            Boundary.at(17, "an item that nobody throws: " + item).given(x -> x.neighbour(NEIGHBOUR, 0))
                .given(x -> Boundary.row(x, 0, INTS, item)).still(0, x -> x.tells(0, 0, 0)).still(0, x -> x.tells(0, 0, 1));
        }
    }

    /** Texts 1, 3 and 5 throw 9, as text 0. */
    private static int sixTexts(SkipOfEightYards x) {
        for (int i = 1; i < 6; i++) Boundary.read(x, "throws " + (i % 2 == 1 ? 9 : i) + ";comes 1;pays 1;");
        return x.count(3);
    }

    private static void film() {
        for (int sheet : new int[] {-1, 4, MIN, MAX}) Boundary.at(18, "no such SHEET: " + sheet).furnished()
            .still(BAD, x -> x.film(sheet, 0, 1));
        for (int one : new int[] {-1, 4, 5, MIN, MAX}) Boundary.at(18, "none such: " + one).furnished()
            .still(BAD, x -> x.film(0, one, 1));
        for (int n : new int[] {-1, 21, 40, MIN, MAX}) Boundary.at(18, "n (0 .. 20): " + n).furnished()
            .still(BAD, x -> x.film(0, 0, n));
        Boundary.at(18, "nobody").still(BAD, x -> x.film(0, 0, 0));
        Boundary.at(18, "n 0: an empty row of bytes").furnished().due(0, x -> x.film(3, 0, 0)).due(OUTSIDE, x -> x.cell(3, 0, 1))
            .due(0, x -> x.street(3, BYTES, 0, 0)).due(NONE, x -> x.tells(3, 0, 0));
        Boundary.at(18, "n 20").furnished().due(20, x -> x.film(3, 0, 20)).due(NONE, x -> x.tells(3, 0, 0))
            .due(1, x -> x.cell(3, 19, 1)).due(OUTSIDE, x -> x.cell(3, 20, 1));
        Boundary.at(18, "bytes, also of a row of another sort").furnished().due(2, x -> x.film(1, 0, 2))
            .due(0, x -> x.street(1, BYTES, 0, 0)).due(-13, x -> x.street(1, SHORTS, 0, 0)).due(OUTSIDE, x -> x.cell(1, 2, 0));
        for (int v : new int[] {-99, -1, 0, 99}) {
            Boundary.at(18, "one THROWS " + v).given(x -> x.neighbour(NEIGHBOUR, 0))
                .given(x -> Boundary.rule(x, "throws " + v + ";comes 0;pays 1;")).due(2, x -> x.film(0, 0, 2))
                .given(x -> x.force(0)).due(0, x -> x.tells(0, 0, 0)).due(2, x -> x.tells(0, 0, 5)).given(x -> x.force(1))
                .due(NONE, x -> x.tells(0, 0, 0));
        }
        Boundary.at(18, "in NIGHT 0, .., n less 1 on, also beyond 999").given(x -> x.neighbour(NEIGHBOUR, 0))
            .given(x -> x.set(0, 0, 999)).given(x -> Boundary.rule(x, "throws night-999;comes 1;pays 1;"))
            .given(x -> Boundary.row(x, 1, BYTES, 0, 1, 2)).due(3, x -> x.film(0, 0, 3)).due(NONE, x -> x.tells(0, 0, 0))
            .due(NONE, x -> x.tells(1, 0, 0)).due(999, x -> x.told(0, 0));
        Boundary.at(18, "the last SHEET, the last of five").given(x -> Boundary.neighbours(x, 0, 0, 0, 0, 5))
            .due(1, x -> x.film(3, 4, 1)).due(16, x -> x.tells(3, 4, 6));
    }

    private static int left(int seed, int n) {
        int z = seed;
        int theirs = 0;
        for (int i = 0; i < n; i++) {
            if (i == 4 && theirs <= 18) return 0;
            z = z * 1103515245 + 12345;
            if ((z >>> 9) % 2 != 1) theirs += 9;
        }
        return 82;
    }

    /** A neighbour throws 9 a night; in night 4 the thing has room if two of four were covered: not by 1 alone. */
    private static Boundary drawing(int promise, String says) {
        return Boundary.at(promise, says).given(x -> x.neighbour(NEIGHBOUR, 0)).given(x -> x.thing(82, 4));
    }

    private static void drawn() {
        for (int n : new int[] {-1, 31, MIN, MAX}) Boundary.at(19, "n (0 .. 30): " + n).furnished()
            .still(BAD, x -> x.drawn(0, n));
        Boundary.at(19, "0 NIGHTS").furnished().still(29, x -> x.drawn(7, 0));
        Boundary.at(19, "nobody and nothing").still(0, x -> x.drawn(0, 30));
        Boundary.at(19, "30 NIGHTS").given(x -> x.thing(7, 29)).given(x -> x.thing(8, 30)).still(8, x -> x.drawn(0, 30))
            .still(15, x -> x.drawn(0, 29));
        for (int seed : new int[] {0, 1, -1, MIN, MIN + 1, MAX, MAX - 1, 1103515245, -12345, 511, 512, 1 << 30}) {
            for (int n : new int[] {4, 5, 30}) drawing(19, "SEED (an int) " + seed + ", n " + n)
                .still(left(seed, n), x -> x.drawn(seed, n));
        }
        drawing(19, "in thought").still(left(3, 5), x -> x.drawn(3, 5)).still(0, x -> x.told(0, 0)).still(0, x -> x.told(0, 4));
        for (int seed : new int[] {-2, -1, 0, 1, 2, 3, MIN, MAX}) {
            int z = seed * 1103515245 + 12345;
            Boundary.at(19, "COVERED, if (z >>> 9) % 2 is 1: SEED " + seed).given(x -> x.neighbour(NEIGHBOUR, 0))
                .given(x -> x.thing(99, 1)).still((z >>> 9) % 2 == 1 ? 0 : 99, x -> x.drawn(seed, 2));
        }
    }

    private static void chance() {
        for (int m : new int[] {-1, 0, 21, MIN, MAX}) Boundary.at(20, "m (1 .. 20): " + m).furnished()
            .still(NO, x -> x.chance(0, m, 0, 0)).still(NO, x -> x.chance(0, m, 999, 1));
        for (int k : new int[] {-1, 1000, MIN, MAX}) Boundary.at(20, "k (0 .. 999): " + k).furnished()
            .still(NO, x -> x.chance(0, 1, k, 0));
        for (int part : new int[] {-1, 2, MIN, MAX}) Boundary.at(20, "part (0, 1): " + part).furnished()
            .still(NO, x -> x.chance(0, 1, 0, part));
        for (int m : new int[] {1, 20}) {
            Boundary.at(20, "all of " + m).still(1, x -> x.chance(0, m, 0, 0)).still(1, x -> x.chance(0, m, 0, 1));
            Boundary.at(20, "none of " + m).given(x -> x.thing(9, 99)).still(0, x -> x.chance(0, m, 8, 0))
                .still(1, x -> x.chance(0, m, 8, 1));
            Boundary.at(20, "k is LEFT, of " + m).given(x -> x.thing(9, 99)).still(1, x -> x.chance(0, m, 9, 0))
                .still(1, x -> x.chance(0, m, 9, 1));
        }
        Boundary.at(20, "k 999").given(x -> Boundary.things(x, 99, 99, 99, 99, 99, 99, 99, 99)).given(x -> x.set(1, 0, 0))
            .still(1, x -> x.chance(0, 20, 999, 0)).still(1, x -> x.chance(0, 20, 792, 0))
            .still(0, x -> x.chance(0, 20, 791, 0));
        Boundary.at(20, "5 NIGHTS: READY in the fifth, in the sixth").given(x -> x.thing(1, 4))
            .still(1, x -> x.chance(0, 3, 0, 0)).given(x -> x.set(5, 0, 5)).still(0, x -> x.chance(0, 3, 0, 0));
        for (int seed : new int[] {0, MAX, MAX - 19, MAX - 5, MIN, -1, -10}) {
            for (int m : new int[] {1, 6, 20}) chances(seed, m);
        }
    }

    private static void chances(int seed, int m) {
        int many = 0;
        for (int i = 0; i < m; i++) many += left(seed + i, 5) == 0 ? 1 : 0;
        int common = m;
        while (many % common != 0 || m % common != 0) common--;
        int above = many / common, below = m / common;
        drawing(20, "SEED and each 1 more (an int): " + seed + ", m " + m).still(above, x -> x.chance(seed, m, 81, 0))
            .still(below, x -> x.chance(seed, m, 81, 1)).still(1, x -> x.chance(seed, m, 82, 0));
    }

    private static void image() {
        Boundary.at(21, "nobody").due(0, x -> x.image()).still(0, x -> x.back());
        Boundary.at(21, "five").given(x -> Boundary.neighbours(x, 5, 1, 2, 3, 4)).due(5, x -> x.image()).due(5, x -> x.back());
        Boundary.at(21, "it changes nothing else").furnished().due(4, x -> x.image()).due(7, x -> x.told(0, 0))
            .due(1, x -> x.count(5)).due(2, x -> x.count(3)).due(22, x -> x.count(4));
        Boundary.at(21, "the last one is kept").given(x -> x.image()).given(x -> x.set(0, 0, 5)).given(x -> x.image())
            .given(x -> x.set(0, 0, 9)).due(0, x -> x.back()).due(5, x -> x.told(0, 0));
        Boundary.at(21, "an IMAGE is not changed by what comes behind it").given(x -> x.neighbour(0, 3)).given(x -> x.thing(9, 9))
            .due(1, x -> x.image()).given(x -> x.set(6, 0, 8)).given(x -> x.set(5, 0, 1))
            .given(x -> x.load(0)).due(1, x -> x.back()).due(3, x -> x.told(0, 6)).due(9, x -> x.told(0, 5))
            .due(0, x -> x.told(0, 9));
    }

    private static void back() {
        Boundary.at(22, "there is none").still(STATE, x -> x.back());
        Boundary.at(22, "there is none, with all else").given(x -> Boundary.neighbours(x, 5, 1))
            .given(x -> Boundary.things(x, 7, 8)).given(x -> x.night(0)).still(STATE, x -> x.back());
        int[] most = {999, 999, 1, 999, 999, 99, 9, 1};
        for (int what = 0; what < 8; what++) {
            int w = what;
            int kept = most[what] == 1 ? 1 : 6;
            Boundary.at(22, "as in THE IMAGE: what " + what + " of set()").given(x -> x.neighbour(0, 0)).given(x -> x.thing(1, 0))
                .given(x -> x.set(w, 0, kept)).given(x -> x.image()).given(x -> x.set(w, 0, 0))
                .due(1, x -> x.back()).due(kept, x -> x.told(0, w)).given(x -> x.set(w, 0, most[w])).due(1, x -> x.back())
                .due(kept, x -> x.told(0, w));
        }
        Boundary.at(22, "as in THE IMAGE: IN").given(x -> Boundary.things(x, 7, 8)).given(x -> x.load(1)).given(x -> x.image())
            .given(x -> x.load(0)).due(0, x -> x.back()).due(2, x -> x.run(0, 0, 5)).due(8, x -> x.told(0, 3));
        Boundary.at(22, "as in THE IMAGE: THE RULE").given(x -> Boundary.read(x, "throws 1;comes 1;pays 1;"))
            .given(x -> x.image()).given(x -> x.force(1)).due(0, x -> x.back()).due(0, x -> x.count(5));
        Boundary.at(22, "the TEXTS, THE TAPE and the SHEETS stay").given(x -> x.image())
            .given(x -> Boundary.rule(x, "throws 1;comes 1;pays 1;")).given(x -> x.feed(32)).given(x -> x.sheet(0, 0, 2))
            .due(0, x -> x.back()).due(2, x -> x.count(3)).due(1, x -> x.count(4)).due(1, x -> x.cell(0, 1, 1))
            .due(0, x -> x.force(1));
        Boundary.at(22, "all THINGS that came since go").given(x -> x.image())
            .given(x -> Boundary.things(x, 1, 2, 3, 4, 5, 6, 7, 8)).given(x -> x.night(0)).due(0, x -> x.back())
            .due(0, x -> x.count(1))
            .due(NO_SUCH, x -> x.told(0, 8)).due(BAD, x -> x.load(0)).due(0, x -> x.thing(9, 9)).due(0, x -> x.told(0, 9))
            .due(9, x -> x.told(0, 8));
        Boundary.at(22, "all NEIGHBOURS that came since go").given(x -> x.image())
            .given(x -> Boundary.neighbours(x, 1, 1, 1, 1, 1)).given(x -> x.set(7, 0, 1)).due(0, x -> x.back())
            .due(0, x -> x.count(0))
            .due(NO_SUCH, x -> x.told(0, 6)).due(NONE, x -> x.best(4)).due(0, x -> x.neighbour(2, 2)).due(2, x -> x.told(0, 10))
            .due(0, x -> x.told(0, 7));
        Boundary.at(22, "again and again").furnished().due(2, x -> x.back()).due(2, x -> x.told(0, 0)).still(2, x -> x.back())
            .due(3, x -> x.told(0, 4)).due(0, x -> x.count(5)).due(1, x -> x.count(1));
        Boundary.at(22, "back from NIGHT 999").given(x -> x.set(0, 0, 998)).given(x -> x.image()).given(x -> x.night(0))
            .due(STATE, x -> x.night(0)).due(0, x -> x.back()).due(0, x -> x.night(0));
    }

    private static void count() {
        for (int what : new int[] {-1, 6, MIN, MAX}) Boundary.at(23, "what (0 .. 5): " + what).furnished()
            .still(BAD, x -> x.count(what));
        for (int what = 0; what < 6; what++) {
            int w = what;
            Boundary.at(23, "at first: what " + what).still(what == 3 ? 1 : 0, x -> x.count(w));
        }
        Boundary.at(23, "5 NEIGHBOURS").given(x -> Boundary.neighbours(x, 0, 0, 0, 0, 0, 0)).still(5, x -> x.count(0));
        Boundary.at(23, "8 THINGS").given(x -> Boundary.things(x, 1, 1, 1, 1, 1, 1, 1, 1, 1)).still(8, x -> x.count(1));
        Boundary.at(23, "NIGHT 999").given(x -> x.set(0, 0, 999)).still(999, x -> x.count(2));
        Boundary.at(23, "6 TEXTS").given(x -> sixTexts(x)).still(6, x -> x.count(3));
        Boundary.at(23, "160 bytes of THE TAPE").given(x -> bytes(x, 161)).still(160, x -> x.count(4));
        Boundary.at(23, "THE RULE is TEXT 5").given(x -> sixTexts(x)).given(x -> x.force(5)).still(5, x -> x.count(5));
    }

    private static int bytes(SkipOfEightYards x, int many) {
        for (int i = 0; i < many; i++) x.feed(0);
        return many;
    }

    public static void main(String[] args) {
        refusedTells();
        emptyAndLongest();
        kindsAndNumbers();
        mines();
        textsNeighboursAsked();
        film();
        drawn();
        chance();
        image();
        back();
        count();
        Boundary.end();
    }
}
