/** The boundary cases of promises 10 to 16: nights, truly and in thought, and what would be best. */
public final class NightBoundaryTest {
    private static final int MIN = Boundary.MIN, MAX = Boundary.MAX;
    private static final int NONE = Boundary.NONE, BAD = Boundary.BAD, STATE = Boundary.STATE, NO_SUCH = Boundary.NO_SUCH;
    private static final long NO = Boundary.NO;
    private static final int ALL = 1073741823;
    private static final int NEIGHBOUR = 0, ASKER = 1, THIEF = 2, FRIEND = 3, DEALER = 4, GHOST = 5;

    private static void refusedNights() {
        for (int covered : new int[] {-1, 2, MIN, MAX}) {
            Boundary.at(10, "covered (1) or not (0): " + covered).furnished().still(BAD, x -> x.night(covered));
            Boundary.at(10, "BAD ahead of STATE: " + covered).furnished().given(x -> x.set(0, 0, 999))
                .still(BAD, x -> x.night(covered));
        }
        Boundary.at(10, "NIGHT is 999: not covered").furnished().given(x -> x.set(0, 0, 999)).still(STATE, x -> x.night(0));
        Boundary.at(10, "NIGHT is 999: covered").furnished().given(x -> x.set(0, 0, 999)).still(STATE, x -> x.night(1));
        Boundary.at(10, "NIGHT is 998").given(x -> x.set(0, 0, 998)).due(0, x -> x.night(1)).due(999, x -> x.told(0, 0))
            .still(STATE, x -> x.night(1));
        Boundary.at(10, "nobody and nothing").due(0, x -> x.night(0)).due(1, x -> x.told(0, 0)).due(0, x -> x.night(1))
            .due(2, x -> x.told(0, 0)).due(0, x -> x.told(0, 14));
    }

    private static void things() {
        for (int night : new int[] {0, 4, 5, 6, 99, 999 - 1}) {
            int in = night >= 5 ? 1 : 0;
            Boundary.at(10, "READY is NIGHT or less: READY 5, NIGHT " + night).given(x -> x.thing(7, 5))
                .given(x -> x.set(0, 0, night)).due(0, x -> x.night(0))
                .due(in, x -> x.told(0, 9)).due(7 * in, x -> x.told(0, 3));
        }
        Boundary.at(10, "READY 99 in NIGHT 98, then 99").given(x -> x.thing(7, 99)).given(x -> x.set(0, 0, 98))
            .due(0, x -> x.night(0)).due(0, x -> x.told(0, 9))
            .due(0, x -> x.night(0)).due(1, x -> x.told(0, 9));
        for (int size : new int[] {0, 29, 30, 31}) {
            int in = size >= 30 ? 1 : 0;
            Boundary.at(10, "BULK is ROOM or less: BULK 30, ROOM " + size).given(x -> x.thing(30, 0))
                .given(x -> x.set(1, 0, size)).due(0, x -> x.night(0))
                .due(in, x -> x.told(0, 9)).due(30 * in, x -> x.told(0, 3)).due(30 - 30 * in, x -> x.told(0, 16));
        }
        Boundary.at(10, "ROOM is as is then: 60, 40 and 1").given(x -> Boundary.things(x, 60, 40, 1)).due(0, x -> x.night(0))
            .due(3, x -> x.run(0, 0, 5)).due(100, x -> x.told(0, 3));
        Boundary.at(10, "by numbers: the first takes it all").given(x -> Boundary.things(x, 99, 50, 50)).due(0, x -> x.night(0))
            .due(1, x -> x.run(0, 0, 5));
        Boundary.at(10, "by numbers: a later one that still fits").given(x -> Boundary.things(x, 70, 31, 30))
            .due(0, x -> x.night(0)).due(5, x -> x.run(0, 0, 5));
        Boundary.at(10, "all eight, and it is full").given(x -> Boundary.things(x, 9, 9, 9, 9, 9, 9, 9, 37))
            .due(0, x -> x.night(0)).due(255, x -> x.run(0, 0, 5)).due(0, x -> x.told(0, 15));
        Boundary.at(10, "what is IN it is not put IN again").given(x -> x.thing(7, 0)).due(0, x -> x.night(0))
            .due(0, x -> x.night(0)).due(7, x -> x.told(0, 3));
        Boundary.at(10, "SIZE below FULL").given(x -> x.thing(1, 0)).given(x -> x.set(4, 0, 101)).due(0, x -> x.night(0))
            .due(0, x -> x.told(0, 9)).due(101, x -> x.told(0, 14));
        Boundary.at(10, "THINGS ahead of NEIGHBOURS").given(x -> x.thing(99, 0)).given(x -> x.neighbour(NEIGHBOUR, 0))
            .due(0, x -> x.night(0)).due(1, x -> x.told(0, 9)).due(1, x -> x.told(0, 4));
    }

    /** One throws 9 and pays 2 for each; so much is in it, of 100. */
    private static void roomForThrowing() {
        int[][] rows = {{0, 9}, {90, 9}, {91, 9}, {92, 8}, {99, 1}, {100, 0}, {101, 0}, {999, 0}};
        for (int[] row : rows) {
            Boundary.at(10, "no more than ROOM: FULL " + row[0]).given(x -> x.neighbour(NEIGHBOUR, 0)).given(x -> x.set(7, 0, 1))
                .given(x -> x.set(3, 0, row[0]))
                .given(x -> Boundary.rule(x, "throws 9;comes 1;pays 2;")).due(2 * row[1], x -> x.night(0))
                .due(row[1], x -> x.told(0, 4)).due(row[0], x -> x.told(0, 3));
            Boundary.at(10, "no more than ROOM: THEIRS " + row[0]).given(x -> x.neighbour(NEIGHBOUR, 0))
                .given(x -> x.set(4, 0, row[0]))
                .due(0, x -> x.night(0)).due(row[0] + row[1], x -> x.told(0, 4)).due(0, x -> x.told(0, 3));
        }
        Boundary.at(10, "no more than ROOM: FRIEND pays half (cut) of what was thrown in").given(x -> x.neighbour(FRIEND, 9))
            .given(x -> x.set(7, 0, 1)).given(x -> x.set(3, 0, 93))
            .due(3, x -> x.night(0)).due(7, x -> x.told(0, 4));
        Boundary.at(10, "no more than ROOM: SIZE 0").given(x -> Boundary.neighbours(x, 0, 3, 5)).given(x -> x.set(1, 0, 0))
            .due(0, x -> x.night(0)).due(0, x -> x.told(0, 4));
        Boundary.at(10, "throws 0").given(x -> x.neighbour(NEIGHBOUR, 0)).given(x -> x.set(7, 0, 1))
            .given(x -> Boundary.rule(x, "throws 0;comes 1;pays 9;")).due(0, x -> x.night(0)).due(0, x -> x.told(0, 4));
        Boundary.at(10, "99, twice 50, in a skip of 999").given(x -> x.neighbour(ASKER, 0)).given(x -> x.set(7, 0, 1))
            .given(x -> x.set(1, 0, 999))
            .given(x -> Boundary.rule(x, "throws 50;comes 1;pays 9;")).due(891, x -> x.night(0)).due(99, x -> x.told(0, 4));
    }

    /** One takes 9; so much is theirs. */
    private static void takingWhatThereIs() {
        int[][] rows = {{0, 0}, {1, 0}, {8, 0}, {9, 0}, {10, 1}, {999, 990}};
        for (int[] row : rows) {
            Boundary.at(10, "no more than there is: THEIRS " + row[0]).given(x -> x.neighbour(THIEF, 0))
                .given(x -> x.set(7, 0, 1)).given(x -> x.set(4, 0, row[0]))
                .due(0, x -> x.night(0)).due(row[1], x -> x.told(0, 4));
        }
        Boundary.at(10, "no more than there is: MINE stays").given(x -> x.neighbour(THIEF, 0)).given(x -> x.set(3, 0, 50))
            .due(0, x -> x.night(0)).due(50, x -> x.told(0, 3)).due(0, x -> x.told(0, 4));
        Boundary.at(10, "a NEIGHBOUR told below 0 takes, and pays 0").given(x -> x.neighbour(NEIGHBOUR, 0))
            .given(x -> x.set(7, 0, 1)).given(x -> x.set(4, 0, 99))
            .given(x -> Boundary.rule(x, "throws -100;comes 1;pays 9;")).due(0, x -> x.night(0)).due(0, x -> x.told(0, 4));
        Boundary.at(10, "a THIEF told below 0 throws, and pays 0").given(x -> x.neighbour(THIEF, 0)).given(x -> x.set(7, 0, 1))
            .given(x -> Boundary.rule(x, "throws -100;comes 1;pays 9;")).due(0, x -> x.night(1)).due(99, x -> x.told(0, 4));
        Boundary.at(10, "a DEALER takes 18 of 17, and pays NUMBER").given(x -> x.neighbour(DEALER, 7)).given(x -> x.set(4, 0, 17))
            .due(7, x -> x.night(0)).due(0, x -> x.told(0, 4));
        Boundary.at(10, "a DEALER in an odd NIGHT takes none, and pays NUMBER").given(x -> x.neighbour(DEALER, 7))
            .given(x -> x.set(4, 0, 17)).given(x -> x.set(0, 0, 1))
            .due(7, x -> x.night(0)).due(17, x -> x.told(0, 4));
        Boundary.at(10, "a DEALER who doesn't come pays none").given(x -> x.neighbour(DEALER, 7)).given(x -> x.set(2, 0, 1))
            .given(x -> x.set(4, 0, 50)).due(0, x -> x.night(0)).due(50, x -> x.told(0, 4));
        Boundary.at(10, "a DEALER comes for 51").given(x -> x.neighbour(DEALER, 7)).given(x -> x.set(2, 0, 1))
            .given(x -> x.set(4, 0, 51)).due(7, x -> x.night(0)).due(33, x -> x.told(0, 4));
    }

    private static void comersByNight() {
        for (int night : new int[] {0, 1, 2, 3, 4, 996, 997, 998}) {
            Boundary.at(10, "a GHOST in NIGHT " + night).given(x -> x.neighbour(GHOST, 7)).given(x -> x.set(0, 0, night))
                .given(x -> x.set(7, 0, 1))
                .due(0, x -> x.night(1)).due(night % 3 == 0 ? 7 : 0, x -> x.told(0, 4));
        }
        Boundary.at(10, "not covered").given(x -> Boundary.neighbours(x, 0, 5)).due(0, x -> x.night(0))
            .due(13, x -> x.told(0, 4));
        Boundary.at(10, "covered").given(x -> Boundary.neighbours(x, 0, 5)).due(0, x -> x.night(1)).due(4, x -> x.told(0, 4));
        Boundary.at(10, "who COMES is told as all is then").given(x -> Boundary.neighbours(x, 0, 0, 0))
            .given(x -> Boundary.rule(x, "throws 9;comes full<18;pays 1;"))
            .due(0, x -> x.night(0)).due(18, x -> x.told(0, 4));
        Boundary.at(10, "a DEALER, whom the one ahead of him brings above 50").given(x -> Boundary.neighbours(x, 0, 4))
            .given(x -> x.set(2, 0, 1)).given(x -> x.set(4, 0, 42))
            .due(4, x -> x.night(0)).due(33, x -> x.told(0, 4));
        Boundary.at(10, "a DEALER, whom the one ahead of him brings to 50").given(x -> Boundary.neighbours(x, 0, 4))
            .given(x -> x.set(2, 0, 1)).given(x -> x.set(4, 0, 41))
            .due(0, x -> x.night(0)).due(50, x -> x.told(0, 4));
        Boundary.at(10, "one PAYS as is told ahead of throwing in").given(x -> x.neighbour(0, 0)).given(x -> x.set(7, 0, 1))
            .given(x -> Boundary.rule(x, "throws 9;comes 1;pays full=0;"))
            .due(9, x -> x.night(0)).due(0, x -> x.night(0)).due(18, x -> x.told(0, 4));
        Boundary.at(10, "at last NIGHT is 1 more").given(x -> x.neighbour(0, 0)).given(x -> x.set(0, 0, 7))
            .given(x -> Boundary.rule(x, "throws night;comes night=7;pays 1;"))
            .due(0, x -> x.night(0)).due(7, x -> x.told(0, 4)).due(0, x -> x.night(0)).due(7, x -> x.told(0, 4));
        Boundary.at(10, "all five pay, together").given(x -> Boundary.neighbours(x, 0, 0, 0, 0, 0)).given(x -> askAll(x, 5))
            .due(45, x -> x.night(0)).due(45, x -> x.told(0, 4));
    }

    private static int askAll(SkipOfEightYards x, int many) {
        for (int one = 0; one < many; one++) x.set(7, one, 1);
        return many;
    }

    private static void load() {
        for (int thing : new int[] {-1, 3, 8, MIN, MAX}) {
            Boundary.at(11, "no such THING: " + thing).furnished().still(BAD, x -> x.load(thing));
        }
        Boundary.at(11, "no such THING: none").still(BAD, x -> x.load(0));
        Boundary.at(11, "it is IN").furnished().still(STATE, x -> x.load(1));
        Boundary.at(11, "it is IN, and ROOM is 0").furnished().given(x -> x.set(1, 0, 0)).still(STATE, x -> x.load(1));
        Boundary.at(11, "ROOM is 1 less than its BULK").furnished().given(x -> x.set(1, 0, 41 + 19)).still(STATE, x -> x.load(0));
        Boundary.at(11, "ROOM is its BULK").furnished().given(x -> x.set(1, 0, 41 + 20)).due(0, x -> x.load(0))
            .due(1, x -> x.told(0, 9)).due(50, x -> x.told(0, 3));
        Boundary.at(11, "ROOM is 1 more than its BULK").furnished().given(x -> x.set(1, 0, 41 + 21)).due(1, x -> x.load(0));
        Boundary.at(11, "SIZE below FULL").furnished().given(x -> x.set(1, 0, 40)).still(STATE, x -> x.load(0));
        Boundary.at(11, "READY or not").given(x -> x.thing(7, 99)).due(93, x -> x.load(0)).due(7, x -> x.told(0, 3))
            .due(0, x -> x.told(0, 0));
        Boundary.at(11, "the eighth").given(x -> Boundary.things(x, 1, 2, 3, 4, 5, 6, 7, 8)).due(92, x -> x.load(7))
            .due(128, x -> x.run(0, 0, 5)).still(BAD, x -> x.load(8));
        Boundary.at(11, "MINE 900 and 99 more").given(x -> x.set(1, 0, 999)).given(x -> x.set(3, 0, 900))
            .given(x -> x.thing(99, 0)).due(0, x -> x.load(0)).due(999, x -> x.told(0, 3));
    }

    private static void run() {
        for (int n : new int[] {-1, 31, MIN, MAX}) {
            Boundary.at(12, "n (0 .. 30): " + n).furnished().still(BAD, x -> x.run(n, 0, 0));
        }
        for (int covered : new int[] {-1, ALL + 1, MIN, MAX}) {
            Boundary.at(12, "covered (0 .. 1073741823): " + covered).furnished().still(BAD, x -> x.run(1, covered, 0));
            Boundary.at(12, "covered (0 .. 1073741823), n 0: " + covered).furnished().still(BAD, x -> x.run(0, covered, 0));
        }
        for (int what : new int[] {-1, 6, MIN, MAX}) {
            Boundary.at(12, "what (0 .. 5): " + what).furnished().still(BAD, x -> x.run(1, 0, what));
        }
        int[] now = {41, 30, 11, 0, 29, 2};
        for (int what = 0; what < 6; what++) {
            int w = what;
            Boundary.at(12, "0 NIGHTS: what " + what).furnished().still(now[what], x -> x.run(0, ALL, w))
                .still(now[what], x -> x.run(0, 0, w));
        }
        Boundary.at(12, "30 NIGHTS, by none COVERED").given(x -> x.neighbour(0, 0)).given(x -> x.set(1, 0, 999))
            .given(x -> x.set(7, 0, 1)).still(270, x -> x.run(30, 0, 2)).still(270, x -> x.run(30, 0, 3));
        Boundary.at(12, "30 NIGHTS, by all COVERED").given(x -> x.neighbour(0, 0)).still(0, x -> x.run(30, ALL, 2));
        for (int k = 0; k < 30; k++) {
            int bit = 1 << k;
            Boundary.at(12, "just NIGHT " + k + " on is COVERED").given(x -> x.neighbour(0, 0)).given(x -> x.set(1, 0, 999))
                .still(261, x -> x.run(30, bit, 2))
                .still(9, x -> x.run(30, ALL - bit, 2));
        }
        Boundary.at(12, "bits above n do not matter").given(x -> x.neighbour(0, 0)).still(18, x -> x.run(2, ALL - 3, 2))
            .still(0, x -> x.run(2, 3, 2));
        Boundary.at(12, "in thought, NIGHT 999 is no end").given(x -> x.neighbour(GHOST, 5)).given(x -> x.set(0, 0, 999))
            .still(5, x -> x.run(1, 0, 2)).still(999, x -> x.told(0, 0));
        Boundary.at(12, "it gets full").given(x -> x.neighbour(0, 0)).still(99, x -> x.run(11, 0, 0))
            .still(100, x -> x.run(12, 0, 0)).still(100, x -> x.run(30, 0, 0));
        Boundary.at(12, "which are IN: all eight").given(x -> Boundary.things(x, 1, 1, 1, 1, 1, 1, 1, 1))
            .still(255, x -> x.run(1, 0, 5)).still(0, x -> x.run(1, 0, 4)).still(0, x -> x.run(0, 0, 5));
    }

    private static void cover() {
        for (int n : new int[] {-1, 8, MIN, MAX}) {
            Boundary.at(13, "n (0 .. 7): " + n).furnished().still(BAD, x -> x.cover(n, 0)).still(BAD, x -> x.cover(n, 1));
        }
        for (int what : new int[] {-1, 2, MIN, MAX}) {
            Boundary.at(13, "what (0, 1): " + what).furnished().still(BAD, x -> x.cover(1, what));
        }
        Boundary.at(13, "0 NIGHTS").furnished().still(0, x -> x.cover(0, 0)).still(29, x -> x.cover(0, 1));
        Boundary.at(13, "nobody and nothing").still(0, x -> x.cover(7, 0)).still(0, x -> x.cover(7, 1));
        Boundary.at(13, "nothing to put IN").given(x -> x.neighbour(0, 0)).still(0, x -> x.cover(7, 0))
            .still(0, x -> x.cover(7, 1));
        Boundary.at(13, "1 NIGHT: what is READY goes IN ahead of it").given(x -> x.neighbour(0, 0)).given(x -> x.thing(99, 0))
            .still(0, x -> x.cover(1, 0)).still(0, x -> x.cover(1, 1));
        Boundary.at(13, "2 NIGHTS, the first must be COVERED").given(x -> x.neighbour(0, 0)).given(x -> x.thing(99, 1))
            .still(1, x -> x.cover(2, 0)).still(0, x -> x.cover(2, 1));
        Boundary.at(13, "all but the last of 7").given(x -> x.neighbour(0, 0)).given(x -> x.thing(99, 6))
            .still(63, x -> x.cover(7, 0)).still(0, x -> x.cover(7, 1));
        Boundary.at(13, "READY a NIGHT too late").given(x -> x.neighbour(0, 0)).given(x -> x.thing(99, 7))
            .still(0, x -> x.cover(7, 0)).still(99, x -> x.cover(7, 1));
        Boundary.at(13, "of like ones the least as bits: one of 6").given(x -> x.neighbour(0, 0)).given(x -> x.thing(55, 6))
            .still(1, x -> x.cover(7, 0)).still(0, x -> x.cover(7, 1));
        Boundary.at(13, "none need be COVERED: just enough ROOM").given(x -> x.neighbour(0, 0)).given(x -> x.thing(46, 6))
            .still(0, x -> x.cover(7, 0)).still(0, x -> x.cover(7, 1));
        Boundary.at(13, "fewest are COVERED: the one of 10, not the two of 5").given(x -> x.neighbour(0, 0))
            .given(x -> x.thing(90, 3)).given(x -> Boundary.rule(x, "throws 5+(night=2)*5;comes 1;pays 1;"))
            .still(4, x -> x.cover(4, 0)).still(0, x -> x.cover(4, 1));
        Boundary.at(13, "LEFT is least, though more are COVERED").given(x -> x.neighbour(0, 0)).given(x -> x.thing(90, 2))
            .given(x -> x.thing(10, 2)).still(3, x -> x.cover(3, 0)).still(0, x -> x.cover(3, 1));
    }

    private static void ask() {
        for (int n : new int[] {-1, 8, MIN, MAX}) {
            Boundary.at(14, "n (0 .. 7): " + n).furnished().still(BAD, x -> x.ask(n, 0)).still(BAD, x -> x.ask(n, 2));
        }
        for (int what : new int[] {-1, 3, MIN, MAX}) {
            Boundary.at(14, "what (0 .. 2): " + what).furnished().still(BAD, x -> x.ask(1, what));
        }
        Boundary.at(14, "0 NIGHTS").furnished().still(0, x -> x.ask(0, 0)).still(29, x -> x.ask(0, 1)).still(0, x -> x.ask(0, 2));
        Boundary.at(14, "nobody").given(x -> x.thing(7, 99)).still(0, x -> x.ask(7, 0)).still(7, x -> x.ask(7, 1))
            .still(0, x -> x.ask(7, 2));
        Boundary.at(14, "all five").given(x -> Boundary.neighbours(x, 0, 0, 0, 0, 0)).still(31, x -> x.ask(1, 0))
            .still(0, x -> x.ask(1, 1)).still(45, x -> x.ask(1, 2));
        Boundary.at(14, "all five, 7 NIGHTS: the skip gets full").given(x -> Boundary.neighbours(x, 0, 0, 0, 0, 0))
            .still(31, x -> x.ask(7, 0)).still(100, x -> x.ask(7, 2));
        Boundary.at(14, "of like ones the least as bits: who pay none").given(x -> Boundary.neighbours(x, 2, 5, 2, 5, 2))
            .given(x -> askAll(x, 5)).still(0, x -> x.ask(7, 0)).still(0, x -> x.ask(7, 2));
        Boundary.at(14, "of like ones the least as bits: one of two").given(x -> Boundary.neighbours(x, 0, 0))
            .given(x -> x.set(1, 0, 9)).given(x -> Boundary.rule(x, "throws 9;comes 1;pays 1;"))
            .still(1, x -> x.ask(1, 0)).still(9, x -> x.ask(1, 2));
        Boundary.at(14, "just these: who was ASKED ahead of that counts not").given(x -> x.neighbour(1, 0))
            .given(x -> x.set(7, 0, 1)).given(x -> x.thing(99, 1)).still(0, x -> x.ask(2, 0))
            .still(0, x -> x.ask(2, 1)).still(0, x -> x.ask(2, 2)).still(1, x -> x.told(0, 7));
        Boundary.at(14, "LEFT is least, of these that by which all PAY most").given(x -> Boundary.neighbours(x, 1, 1))
            .given(x -> x.thing(82, 1)).still(1, x -> x.ask(2, 0)).still(0, x -> x.ask(2, 1)).still(18, x -> x.ask(2, 2));
    }

    private static void pack() {
        for (int what : new int[] {-1, 6, MIN, MAX}) {
            Boundary.at(15, "what (0 .. 5): " + what).furnished().still(NO_SUCH, x -> x.best(what));
        }
        packs("nothing", 0, 0, 100);
        packs("ROOM 0", 0, 0, 0, 1, 1);
        packs("BULK is ROOM", 1, 40, 40, 40);
        packs("BULK is 1 more than ROOM", 0, 0, 39, 40);
        packs("BULK, together, is ROOM", 3, 90, 90, 40, 50);
        packs("BULK, together, is 1 more than ROOM", 2, 50, 89, 40, 50);
        packs("all eight", 255, 792, 999, 99, 99, 99, 99, 99, 99, 99, 99);
        packs("all eight but one", 127, 693, 791, 99, 99, 99, 99, 99, 99, 99, 99);
        packs("just the eighth", 128, 30, 30, 31, 31, 31, 31, 31, 31, 31, 30);
        packs("of like ones the least as bits: 0 and 1, not 2", 3, 30, 30, 10, 20, 30);
        packs("of like ones the least as bits: 0, not 1", 1, 30, 30, 30, 30);
        Boundary.at(15, "PACK: READY or not").given(x -> x.thing(7, 99)).still(1, x -> x.best(0)).still(7, x -> x.best(1));
        Boundary.at(15, "PACK: that aren't IN it").furnished().still(5, x -> x.best(0)).still(29, x -> x.best(1));
        Boundary.at(15, "PACK: all are IN it").given(x -> Boundary.things(x, 1, 2)).given(x -> x.night(0))
            .still(0, x -> x.best(0)).still(0, x -> x.best(1));
        Boundary.at(15, "PACK: SIZE below FULL").furnished().given(x -> x.set(1, 0, 3)).still(0, x -> x.best(0))
            .still(0, x -> x.best(1));
    }

    private static void packs(String says, int bits, int bulk, int size, int... bulks) {
        Boundary.at(15, "PACK: " + says).given(x -> x.set(1, 0, size)).given(x -> Boundary.things(x, bulks))
            .still(bits, x -> x.best(0)).still(bulk, x -> x.best(1));
    }

    private static void late() {
        Boundary.at(15, "LATE: nothing").still(0, x -> x.best(2)).still(0, x -> x.best(3));
        for (int ready = 5; ready < 16; ready++) {
            int r = ready;
            int late = ready <= 6 ? 0 : ready <= 13 ? ready - 6 : 0;
            Boundary.at(15, "LATE: READY " + ready).given(x -> x.thing(40, r)).still(late, x -> x.best(2))
                .still(ready <= 13 ? 0 : 40, x -> x.best(3));
        }
        Boundary.at(15, "LATE: of like ones the least").given(x -> Boundary.things(x, 60, 50)).still(0, x -> x.best(2))
            .still(50, x -> x.best(3));
        Boundary.at(15, "LATE: in thought, NIGHT 999 is no end").given(x -> x.thing(40, 99)).given(x -> x.set(0, 0, 999))
            .still(0, x -> x.best(2)).still(0, x -> x.best(3)).still(999, x -> x.told(0, 0));
        Boundary.at(15, "LATE: nothing COVERED").given(x -> x.neighbour(0, 0)).given(x -> x.thing(99, 1)).still(1, x -> x.best(2))
            .still(0, x -> x.best(3));
    }

    private static void most() {
        Boundary.at(15, "MOST: NONE").still(NONE, x -> x.best(4));
        Boundary.at(15, "MOST: 0, if nobody is").still(0, x -> x.best(5));
        Boundary.at(15, "MOST: 0, if nobody is, also behind PACK and LATE").given(x -> x.thing(7, 99))
            .due(7, x -> x.best(1)).due(0, x -> x.best(5)).due(7, x -> x.best(3)).due(0, x -> x.best(5)).due(NONE, x -> x.best(4));
        Boundary.at(15, "MOST: one alone, who takes").given(x -> x.neighbour(DEALER, 0)).still(0, x -> x.best(4))
            .still(-18, x -> x.best(5));
        Boundary.at(15, "MOST: all take, the first of like ones").given(x -> Boundary.neighbours(x, 4, 2, 2, 4))
            .still(1, x -> x.best(4)).still(-9, x -> x.best(5));
        Boundary.at(15, "MOST: one throws 0, the others take").given(x -> x.neighbour(THIEF, 0)).given(x -> x.neighbour(GHOST, 0))
            .still(1, x -> x.best(4)).still(0, x -> x.best(5));
        Boundary.at(15, "MOST: the first of like ones, five").given(x -> Boundary.neighbours(x, 0, 0, 0, 0, 0))
            .still(0, x -> x.best(4)).still(9, x -> x.best(5));
        Boundary.at(15, "MOST: the last of five").given(x -> Boundary.neighbours(x, 2, 3, 5, 4, 0)).still(4, x -> x.best(4))
            .still(9, x -> x.best(5));
        Boundary.at(15, "MOST: COMES or not").given(x -> Boundary.neighbours(x, 5, 0))
            .given(x -> Boundary.rule(x, "throws 9;comes 0;pays 1;")).still(1, x -> x.best(4)).still(9, x -> x.best(5));
        Boundary.at(15, "MOST: the bound").given(x -> Boundary.neighbours(x, 0, 1)).given(x -> askAll(x, 2))
            .given(x -> Boundary.rule(x, "throws 99;comes 1;pays 1;")).still(0, x -> x.best(4)).still(99, x -> x.best(5));
        Boundary.at(15, "MOST: no more ROOM").given(x -> x.neighbour(0, 0)).given(x -> x.set(1, 0, 0)).still(0, x -> x.best(4))
            .still(9, x -> x.best(5));
    }

    private static void share() {
        for (int part : new int[] {-1, 2, MIN, MAX}) {
            Boundary.at(16, "part (0, 1): " + part).furnished().still(NO, x -> x.share(part));
        }
        Boundary.at(16, "FULL is 0").still(NO, x -> x.share(0)).still(NO, x -> x.share(1));
        Boundary.at(16, "FULL is 0, no such part").still(NO, x -> x.share(2));
        shares("MINE is 0", 0, 7, 0, 1);
        shares("THEIRS is 0", 7, 0, 1, 1);
        shares("1 of 1", 1, 0, 1, 1);
        shares("0 of 1", 0, 1, 0, 1);
        shares("at most", 999, 999, 1, 2);
        shares("lowest already", 998, 999, 998, 1997);
        shares("lowest terms", 12, 18, 2, 5);
        shares("lowest terms", 18, 12, 3, 5);
        shares("one is a part of the other", 6, 12, 1, 3);
        shares("MINE at most, THEIRS 1", 999, 1, 999, 1000);
        shares("MINE 1, THEIRS at most", 1, 999, 1, 1000);
    }

    private static void shares(String says, int mine, int theirs, int above, int below) {
        Boundary.at(16, says + ": MINE " + mine + ", THEIRS " + theirs).given(x -> x.set(3, 0, mine))
            .given(x -> x.set(4, 0, theirs)).still(above, x -> x.share(0)).still(below, x -> x.share(1));
    }

    public static void main(String[] args) {
        refusedNights();
        things();
        roomForThrowing();
        takingWhatThereIs();
        comersByNight();
        load();
        run();
        cover();
        ask();
        pack();
        late();
        most();
        share();
        Boundary.end();
    }
}
