/** Each promise of the document by hand-made calls: ordinary ones, the edges, wrong ones. */
public final class PromiseTest {
    private static final long NO = SkipOfEightYards.NO;
    private static final String RULE = "throws 9 ; comes 1 ; pays 1 ;";
    private static int wrong = 0;
    private static int asked = 0;

    private static void due(int promise, String call, long got, long want) {
        asked++;
        if (got != want) {
            wrong++;
            System.out.println("promise " + promise + ": " + call + " answered " + got + ", due is " + want);
        }
    }

    private static int read(SkipOfEightYards x, String text) {
        for (int i = 0; i < text.length(); i++) x.feed(text.charAt(i));
        return x.text();
    }

    private static void rule(SkipOfEightYards x, String text) {
        int number = read(x, text);
        if (x.force(number) < 0) due(9, "force of \"" + text + "\"", number, 0);
    }

    private static void row(SkipOfEightYards x, int sheet, int sort, int... items) {
        x.sheet(sheet, sort, items.length);
        for (int i = 0; i < items.length; i++) x.cell(sheet, i, items[i]);
    }

    private static void newObject() {
        SkipOfEightYards x = new SkipOfEightYards();
        int[] first = {0, 100, 0, 0, 0};
        for (int what = 0; what < first.length; what++) due(1, "told(0, " + what + ")", x.told(0, what), first[what]);
        int[] counts = {0, 0, 0, 1, 0, 0};
        for (int what = 0; what < counts.length; what++) due(1, "count(" + what + ")", x.count(what), counts[what]);
        for (int sheet = 0; sheet < 4; sheet++) due(1, "cell(" + sheet + ", 0, 0)", x.cell(sheet, 0, 0), -11);
        due(1, "back()", x.back(), -3);
        due(1, "NONE", SkipOfEightYards.NONE, -1);
        due(1, "BAD", SkipOfEightYards.BAD, -2);
        due(1, "STATE", SkipOfEightYards.STATE, -3);
        due(1, "FULL", SkipOfEightYards.FULL, -4);
        due(1, "NO", NO, -4611686018427387904L);
    }

    private static void set() {
        SkipOfEightYards x = new SkipOfEightYards();
        int[] most = {999, 999, 1, 999, 999, 99, 9, 1};
        int[] was = {0, 100, 0, 0, 0, 7, 3, 0};
        due(2, "set(5, 0, 0) with nothing", x.set(5, 0, 0), -1000);
        due(2, "set(6, 0, 0) with nobody", x.set(6, 0, 0), -1000);
        due(2, "set(7, 0, 0) with nobody", x.set(7, 0, 0), -1000);
        x.thing(5, 7);
        x.neighbour(2, 3);
        for (int what = 0; what < 8; what++) {
            int of = what < 5 ? -77 : 0;
            due(2, "set(" + what + ", above)", x.set(what, of, most[what] + 1), -1000);
            due(2, "set(" + what + ", below)", x.set(what, of, -1), -1000);
            due(2, "set(" + what + ", most)", x.set(what, of, most[what]), was[what]);
            due(2, "told(" + what + ")", x.told(of, what), most[what]);
            due(2, "set(" + what + ", 0)", x.set(what, of, 0), most[what]);
            due(2, "told(" + what + ")", x.told(of, what), 0);
        }
        for (int what = 5; what < 8; what++) {
            due(2, "set(" + what + ", 1, 0)", x.set(what, 1, 0), -1000);
            due(2, "set(" + what + ", -1, 0)", x.set(what, -1, 0), -1000);
        }
        due(2, "set(-1, 0, 0)", x.set(-1, 0, 0), -1000);
        due(2, "set(8, 0, 0)", x.set(8, 0, 0), -1000);
        due(2, "set(MIN, 0, 0)", x.set(Integer.MIN_VALUE, 0, 0), -1000);
        x.neighbour(1, 0);
        due(2, "set(7, 1, 1)", x.set(7, 1, 1), 0);
        due(2, "told(0, 7)", x.told(0, 7), 0);
        due(2, "told(1, 7)", x.told(1, 7), 1);
    }

    private static void thing() {
        SkipOfEightYards x = new SkipOfEightYards();
        int[][] bad = {{0, 0}, {-1, 0}, {100, 0}, {1, -1}, {1, 100}};
        for (int[] b : bad) due(3, "thing(" + b[0] + ", " + b[1] + ")", x.thing(b[0], b[1]), -2);
        due(3, "thing(1, 99)", x.thing(1, 99), 0);
        due(3, "thing(99, 0)", x.thing(99, 0), 1);
        for (int i = 2; i < 8; i++) due(3, "thing(" + i + ", 1)", x.thing(i, 1), i);
        due(3, "a ninth", x.thing(1, 1), -4);
        due(3, "a ninth that is bad", x.thing(0, 1), -2);
        due(3, "told(0, 8)", x.told(0, 8), 1);
        due(3, "told(0, 5)", x.told(0, 5), 99);
        due(3, "told(7, 9)", x.told(7, 9), 0);
        due(3, "count(1)", x.count(1), 8);
    }

    private static void neighbour() {
        SkipOfEightYards x = new SkipOfEightYards();
        int[][] bad = {{-1, 0}, {6, 0}, {0, -1}, {0, 10}};
        for (int[] b : bad) due(4, "neighbour(" + b[0] + ", " + b[1] + ")", x.neighbour(b[0], b[1]), -2);
        for (int i = 0; i < 5; i++) due(4, "neighbour(" + i + ", 9)", x.neighbour(i + 1, 9 - i), i);
        due(4, "a sixth", x.neighbour(0, 0), -4);
        due(4, "a sixth that is bad", x.neighbour(6, 0), -2);
        for (int i = 0; i < 5; i++) {
            due(4, "told(" + i + ", 10)", x.told(i, 10), i + 1);
            due(4, "told(" + i + ", 6)", x.told(i, 6), 9 - i);
            due(4, "told(" + i + ", 7)", x.told(i, 7), 0);
        }
    }

    /** What each kind throws (open, covered) and whether it comes; asked or not, lit or not, in some nights. */
    private static void told() {
        SkipOfEightYards x = new SkipOfEightYards();
        due(5, "told(0, -1)", x.told(0, -1), -1000);
        due(5, "told(0, 17)", x.told(0, 17), -1000);
        for (int what = 5; what < 14; what++) due(5, "told(0, " + what + ")", x.told(0, what), -1000);
        int[] numbers = {4, 4, 4, 4, 4};
        for (int kind = 0; kind < 5; kind++) x.neighbour(kind, numbers[kind]);
        shows(x, "night 0", new int[] {9, 9, -9, 4, -18}, new int[] {0, 0, -9, 0, -18}, new int[] {1, 0, 1, 1, 1});
        for (int one = 0; one < 5; one++) x.set(7, one, 1);
        shows(x, "asked", new int[] {9, 18, -9, 4, -18}, new int[] {0, 0, -9, 0, -18}, new int[] {1, 1, 1, 1, 1});
        x.set(2, 0, 1);
        x.set(0, 0, 1);
        shows(x, "lit, night 1", new int[] {9, 18, -9, 4, 0}, new int[] {0, 0, -9, 0, 0}, new int[] {1, 1, 0, 1, 0});
        x.set(4, 0, 50);
        due(5, "a dealer, 50 in it", x.told(4, 13), 0);
        x.set(3, 0, 1);
        due(5, "a dealer, 51 in it", x.told(4, 13), 1);
        due(5, "told(-9, 14)", x.told(-9, 14), 51);
        due(5, "told(-9, 15)", x.told(-9, 15), 49);
        x.set(1, 0, 50);
        due(5, "no room below 0", x.told(0, 15), 0);
        x.thing(7, 3);
        x.thing(8, 3);
        x.set(1, 0, 58);
        due(5, "load(0)", x.load(0), 0);
        due(5, "told(3, 16)", x.told(3, 16), 8);
        due(5, "told(0, 9)", x.told(0, 9), 1);
        due(5, "told(1, 9)", x.told(1, 9), 0);
        rule(x, "throws 0-70;comes 0-1;pays 99;");
        x.set(2, 0, 0);
        x.set(0, 0, 2);
        x.set(4, 0, 0);
        shows(x, "below 0", new int[] {-70, -99, 70, -99, 99}, new int[] {0, 0, 70, 0, 99}, new int[] {1, 1, 1, 1, 1});
        x.set(2, 0, 1);
        shows(x, "below 0, lit", new int[] {-70, -99, 70, -99, 99}, new int[] {0, 0, 70, 0, 99}, new int[] {1, 1, 0, 1, 0});
        x.set(7, 1, 0);
        due(5, "below 0, an asker who wasn't asked", x.told(1, 13), 0);
        ghosts();
        comesUnbound();
    }

    /** What a comes tells has no bound: all but 0 is yes. */
    private static void comesUnbound() {
        String[] yes = {"-1", "0-1", "10", "-9999", "9999*9999*9999", "night-1", "0-9-1", "(0-9999*2)*9999*9999", "-(not 0)"};
        String[] no = {"0", "-0", "1-1", "night", "-night", "8192*8192*8192"};
        for (String e : yes) due(5, "comes " + e, comer("comes " + e).told(0, 13), 1);
        for (String e : no) due(5, "comes " + e, comer("comes " + e).told(0, 13), 0);
    }

    /** A skip with one neighbour, who was asked, and a text by which one throws 9 and pays 1. */
    private static SkipOfEightYards comer(String part) {
        SkipOfEightYards x = new SkipOfEightYards();
        x.neighbour(0, 0);
        x.set(7, 0, 1);
        rule(x, "throws 9;" + part + ";pays 1;");
        return x;
    }

    /** Wherever it is asked whether one comes, a number below 0 is yes, as 1 is, and 0 is no. */
    private static void comesBelow0() {
        for (int told = -1; told <= 1; told++) {
            SkipOfEightYards x = comer("comes " + (told < 0 ? "-" : "") + Math.abs(told));
            int yes = told == 0 ? 0 : 1;
            String when = "comes " + told + ": ";
            due(5, when + "told(0, 13)", x.told(0, 13), yes);
            due(12, when + "run(3, 0, 2)", x.run(3, 0, 2), 27 * yes);
            due(12, when + "run(3, 2, 3)", x.run(3, 2, 3), 18 * yes);
            x.thing(82, 3);
            due(13, when + "cover(4, 0)", x.cover(4, 0), yes);
            due(14, when + "ask(1, 0)", x.ask(1, 0), yes);
            due(14, when + "ask(1, 2)", x.ask(1, 2), 9 * yes);
            due(15, when + "best(2)", x.best(2), yes);
            due(15, when + "best(3)", x.best(3), 0);
            x.set(5, 0, 1);
            x.set(1, 0, 90);
            for (int seed = 0; seed < 9; seed++) {
                int z = seed * 1103515245 + 12345;
                boolean fits = told == 0 || (z >>> 9 & 1) == 1;
                due(19, when + "drawn(" + seed + ", 2)", x.drawn(seed, 2), fits ? 0 : 82);
                due(20, when + "chance(" + seed + ", 1, 81, 0)", x.chance(seed, 1, 81, 0), fits ? 1 : 0);
            }
            due(10, when + "night(0)", x.night(0), 9 * yes);
            due(10, when + "THEIRS", x.told(0, 4), 9 * yes);
        }
    }

    private static void shows(SkipOfEightYards x, String when, int[] open, int[] covered, int[] comes) {
        for (int one = 0; one < open.length; one++) {
            due(5, when + ": told(" + one + ", 11)", x.told(one, 11), open[one]);
            due(5, when + ": told(" + one + ", 12)", x.told(one, 12), covered[one]);
            due(5, when + ": told(" + one + ", 13)", x.told(one, 13), comes[one]);
        }
    }

    private static void ghosts() {
        SkipOfEightYards x = new SkipOfEightYards();
        x.neighbour(5, 7);
        rule(x, "throws 1;comes 0;pays 9;");
        for (int night = 0; night < 7; night++) {
            x.set(0, 0, night);
            due(5, "a ghost covered", x.told(0, 12), 7);
            due(5, "a ghost in night " + night, x.told(0, 13), night % 3 == 0 ? 1 : 0);
        }
    }

    private static void pays() {
        SkipOfEightYards x = new SkipOfEightYards();
        for (int kind = 0; kind < 5; kind++) x.neighbour(kind, 3);
        rule(x, "throws 9;comes 1;pays 3;");
        int[] unasked = {0, 0, 0, 0, 3};
        int[] asked = {21, 21, 0, 10, 3};
        for (int one = 0; one < 5; one++) {
            due(6, "pays(" + one + ", 7)", x.pays(one, 7), unasked[one]);
            x.set(7, one, 1);
            due(6, "asked: pays(" + one + ", 7)", x.pays(one, 7), asked[one]);
        }
        due(6, "pays(0, 0)", x.pays(0, 0), 0);
        due(6, "pays(0, 99)", x.pays(0, 99), 297);
        due(6, "pays(0, 100)", x.pays(0, 100), -1000);
        due(6, "pays(0, -1)", x.pays(0, -1), -1000);
        due(6, "pays(5, 1)", x.pays(5, 1), -1000);
        due(6, "pays(-1, 1)", x.pays(-1, 1), -1000);
        rule(x, "throws 9;comes 1;pays 10;");
        due(6, "pays(0, 2), 9 at most", x.pays(0, 2), 18);
        rule(x, "throws 9;comes 1;pays 0-1;");
        due(6, "pays(0, 2), 0 at least", x.pays(0, 2), 0);
        SkipOfEightYards ghost = new SkipOfEightYards();
        ghost.neighbour(5, 3);
        ghost.set(7, 0, 1);
        due(6, "a ghost's", ghost.pays(0, 7), 0);
    }

    private static void feed() {
        SkipOfEightYards x = new SkipOfEightYards();
        due(7, "feed(-1)", x.feed(-1), -2);
        due(7, "feed(256)", x.feed(256), -2);
        due(7, "feed(0)", x.feed(0), 1);
        due(7, "feed(255)", x.feed(255), 2);
        for (int i = 3; i <= 160; i++) due(7, "feed " + i, x.feed(32), i);
        due(7, "a 161st", x.feed(32), -4);
        due(7, "a 161st that is bad", x.feed(256), -2);
        due(7, "count(4)", x.count(4), 160);
    }

    /** A ^ stands ahead of the token that is the fault; without one the text is sound. */
    private static final String[] TEXTS = {
        RULE, "throws9;comes1;pays1;", "\n throws 9999;comes full;pays number;  \n", "^", "  \n^", "^comes 1;", "throws^",
        "throws 1; ^pays 1;", "throws 1;comes 1;pays 1^", "throws 1;comes 1;pays 1  ^", RULE + "^;", RULE + " ^throws",
        "throws ^12345;", "throws ^00001;", "throws 1;comes ^99999", "throws ^fool;", "throws ^ful;", "throws ^gull;", "throws ^fall;", "throws ^fulk;", "^shrows 1;", "throws 1 ^nr 2;", "throws ^got 1;",
        "throws ^fullz;", "throws ^zfull;", "throws ^afull;", "throws ^fulla;", "^throwsfull;",
        "throws ^Full;", "throws 1 ^full;", "throws 1 ^2;", "throws 12^ab;", "throws ^;", "throws 1+^;", "throws ^+1;",
        "throws 1*^*2;", "throws 1+^not 1;", "throws -^not 1;", "throws 1<^not 2;", "throws 1 ^not 2;",
        "throws 1<2^<3;", "throws 1=2^=3;", "throws 1<2^=3;", "throws (1<2)<3;comes 1;pays 1;", "throws ^or 1;",
        "throws 1 or^;", "throws 1 or ^and 1;", "throws (1^;", "throws 1^);", "throws (^);", "throws ^throws;",
        "throws 1^$;", "throws^\t1;", "throws 1^\u0000;", "throws 1^\u00e9", "throws 1^\r;", "throws 1^/2;",
        "throws not not not not not 1;comes 1;pays 1;", "throws not not not not not ^not 1;",
        "throws -----1;comes 1;pays 1;", "throws -----^-1;", "throws (((((1)))))<2;comes 1;pays 1;", "throws (((((^(1",
        "throws 1------1;comes 1;pays 1;", "throws 1------^-1;", "throws not-(-(night));comes 1;pays 1;",
        "throws not-(-(^-1));", "throws not-(-(^(1)));", "throws not(not-(1+2)*(-3));comes 1;pays 1;",
        "throws -(-(-1*(2)));comes 1;pays 1;", "throws not 1 and(((((2)))));comes 1;pays 1;", "throws not 1<((((^(2",
        "throws not 1<((((2))))or(((((3)))));comes 1;pays 1;", "throws(1)+(((((2)))));comes 1;pays 1;",
        "throws ((((not ^(1", "throws ((((not 1 and not 2 and -3))));comes 1;pays 1;", "throws 1;comes ((((-^-1",
        "throws 1 ;comes 1 ;pays ((((1)))^;", "throws 1;comes 1;pays 1;^1", "throws 1;^;", "throws not^;", "throws -^;",
        "throws 1 ^throws", "throws lamp+asked*mine-full<number=^night", "throws ^x", "^;", "^1", "^full",
    };

    private static void text() {
        for (String marked : TEXTS) {
            SkipOfEightYards x = new SkipOfEightYards();
            int place = marked.indexOf('^');
            String text = marked.replace("^", "");
            int answer = marked.startsWith("throws lamp") ? -100 - text.indexOf("=night") : place < 0 ? 1 : -100 - place;
            due(8, "text() of \"" + marked + "\"", read(x, text), answer);
            due(8, "the tape then", x.count(4), 0);
            due(8, "how many then", x.count(3), answer > 0 ? 2 : 1);
        }
        SkipOfEightYards x = new SkipOfEightYards();
        for (int i = 1; i < 6; i++) due(8, "text " + i, read(x, RULE), i);
        x.feed('t');
        due(8, "no text more", x.text(), -4);
        due(8, "the tape stays", x.count(4), 1);
        due(8, "six texts", x.count(3), 6);
        longest();
        unlikeTapes();
    }

    /** What stood on the tape before does not count. */
    private static void unlikeTapes() {
        SkipOfEightYards x = new SkipOfEightYards();
        String[] before = {"throwsx", "throws 1234567", "throws 1;comes 1;pays 1;;;", "throws     ;"};
        String[] then = {"throws", "throws 1234", "throws 1;comes 1;pays 1", "throws  "};
        for (int i = 0; i < before.length; i++) {
            due(8, before[i], read(x, before[i]) <= -100 ? 1 : 0, 1);
            due(8, then[i] + " behind " + before[i], read(x, then[i]), -100 - then[i].length());
        }
        due(8, "after faults", read(x, RULE), 1);
    }

    private static void longest() {
        SkipOfEightYards x = new SkipOfEightYards();
        StringBuilder text = new StringBuilder("throws 1");
        while (text.length() < 145) text.append("+1");
        text.append(";comes 1;pays1;");
        due(8, "160 bytes", text.length(), 161);
        text.deleteCharAt(6);
        due(8, "a text of 160 bytes", read(x, text.toString()), 1);
        x.force(1);
        x.neighbour(0, 0);
        due(8, "what it tells", x.told(0, 11), 70);
        String deep = "throws 0or 1and 0=0+1*(0or 1and 0=0+1*(0or 1and 0=0+1*(0or 1and 0=0+1*(0or 1and 1=0+1*(0or 1and 6=2+4*1)))));";
        due(8, "the deepest text", read(x, deep + "comes 1;pays 1;"), 2);
        x.force(2);
        due(8, "what it tells", x.told(0, 11), 1);
    }

    private static void values() {
        int cube = 9999 * 9999 * 9999;
        Object[][] table = {
            {"7-2-1", 4}, {"2+3*4", 14}, {"(2+3)*4", 20}, {"-2*3", -6}, {"2--3", 5}, {"not 5", 0}, {"not 0", 1},
            {"3<4", 1}, {"4<4", 0}, {"5<4", 0}, {"4=4", 1}, {"4=5", 0}, {"2 and 3", 1}, {"2 and 0", 0}, {"0 or 7", 1},
            {"0 or 0", 0}, {"1 or 0 and 0", 1}, {"(1 or 0) and 0", 0}, {"not 1=2", 1}, {"not 0+1", 0}, {"not not 7", 1},
            {"not 1 or 1", 1}, {"-(1+1)", -2}, {"-1<0", 1}, {"100", 99}, {"0-100", -99}, {"99", 99}, {"0-99", -99},
            {"0007", 7}, {"9999*9999*9999", Math.max(-99, Math.min(99, cube))}, {"full", 70}, {"number", 5},
            {"night", 12}, {"lamp", 1}, {"asked", 1}, {"mine", 30}, {"full-mine", 40},
            {"9999*9999*9999<0", cube < 0 ? 1 : 0},
        };
        for (Object[] line : table) {
            SkipOfEightYards x = new SkipOfEightYards();
            x.neighbour(0, 5);
            x.set(0, 0, 12);
            x.set(2, 0, 1);
            x.set(3, 0, 30);
            x.set(4, 0, 40);
            x.set(7, 0, 1);
            rule(x, "throws " + line[0] + ";comes 1;pays 1;");
            due(8, "throws " + line[0], x.told(0, 11), (Integer) line[1]);
        }
    }

    private static void force() {
        SkipOfEightYards x = new SkipOfEightYards();
        x.neighbour(0, 0);
        due(9, "force(1)", x.force(1), -2);
        due(9, "force(-1)", x.force(-1), -2);
        read(x, "throws 3;comes 0;pays 2;");
        due(9, "told(0, 11)", x.told(0, 11), 9);
        due(9, "force(1)", x.force(1), 0);
        due(9, "told(0, 11)", x.told(0, 11), 3);
        due(9, "told(0, 13)", x.told(0, 13), 0);
        due(9, "force(0)", x.force(0), 1);
        due(9, "told(0, 11)", x.told(0, 11), 9);
        due(9, "count(5)", x.count(5), 0);
    }

    private static void night() {
        SkipOfEightYards x = new SkipOfEightYards();
        due(10, "night(-1)", x.night(-1), -2);
        due(10, "night(2)", x.night(2), -2);
        x.set(0, 0, 999);
        due(10, "night(2) at 999", x.night(2), -2);
        due(10, "night(0) at 999", x.night(0), -3);
        x.set(0, 0, 998);
        due(10, "night(0) at 998", x.night(0), 0);
        due(10, "NIGHT then", x.told(0, 0), 999);
        things();
        payers();
    }

    /** By numbers, when ready, as long as there is room. */
    private static void things() {
        SkipOfEightYards x = new SkipOfEightYards();
        x.thing(60, 1);
        x.thing(50, 0);
        x.thing(51, 0);
        x.thing(50, 0);
        due(10, "night(1)", x.night(1), 0);
        due(10, "the first that fits", x.told(1, 9), 1);
        due(10, "one more than room", x.told(2, 9), 0);
        due(10, "just as much as room", x.told(3, 9), 1);
        due(10, "MINE", x.told(0, 3), 100);
        x.set(1, 0, 300);
        due(10, "night(0)", x.night(0), 0);
        due(10, "ready now", x.told(0, 9), 1);
        due(10, "MINE", x.told(0, 3), 211);
    }

    /** Each comes as all is then, throws what has room, takes what there is, pays as was told ahead. */
    private static void payers() {
        SkipOfEightYards x = new SkipOfEightYards();
        for (int one = 0; one < 3; one++) {
            x.neighbour(0, 0);
            x.set(7, one, 1);
        }
        x.neighbour(2, 0);
        x.neighbour(4, 5);
        x.set(1, 0, 25);
        rule(x, "throws 9+full;comes full<27;pays 1+(full<1)*2;");
        // 9 for 3 each, then 16 (of 18) for 1 each; the third comes: 25 is full; the thief takes all, the dealer none
        due(10, "night(0)", x.night(0), 27 + 16 + 0 + 0 + 5);
        due(10, "THEIRS", x.told(0, 4), 0);
        SkipOfEightYards y = new SkipOfEightYards();
        y.neighbour(0, 0);
        y.neighbour(1, 0);
        y.set(7, 1, 1);
        y.neighbour(2, 0);
        y.set(2, 0, 1);
        due(10, "lit: night(0)", y.night(0), 18);
        due(10, "lit: THEIRS", y.told(0, 4), 27);
        due(10, "covered: night(1)", y.night(1), 0);
        due(10, "covered: THEIRS", y.told(0, 4), 27);
        y.set(2, 0, 0);
        due(10, "dark: night(1)", y.night(1), 0);
        due(10, "dark: THEIRS", y.told(0, 4), 18);
        y.set(4, 0, 200);
        due(10, "above its size: night(0)", y.night(0), 0);
        due(10, "above its size: THEIRS", y.told(0, 4), 191);
    }

    private static void load() {
        SkipOfEightYards x = new SkipOfEightYards();
        due(11, "load(0)", x.load(0), -2);
        due(11, "load(-1)", x.load(-1), -2);
        x.thing(60, 99);
        x.thing(41, 0);
        x.thing(40, 0);
        due(11, "load(0), not ready", x.load(0), 40);
        due(11, "load(0) again", x.load(0), -3);
        due(11, "load(1), too much", x.load(1), -3);
        due(11, "load(2)", x.load(2), 0);
        due(11, "load(3)", x.load(3), -2);
        due(11, "MINE", x.told(0, 3), 100);
    }

    private static void run() {
        SkipOfEightYards x = new SkipOfEightYards();
        x.thing(10, 1);
        x.thing(95, 0);
        x.thing(3, 0);
        x.neighbour(1, 0);
        x.set(7, 0, 1);
        int[][] bad = {{31, 0, 0}, {-1, 0, 0}, {0, -1, 0}, {0, 1073741824, 0}, {0, 0, 6}, {0, 0, -1}};
        for (int[] b : bad) due(12, "run" + java.util.Arrays.toString(b), x.run(b[0], b[1], b[2]), -2);
        int[][] rows = {
            {0, 0, 0, 0, 0, 0, 108, 0}, {1, 0, 100, 98, 2, 2, 10, 6}, {1, 1, 98, 98, 0, 0, 10, 6},
            {2, 1, 100, 98, 2, 2, 10, 6}, {2, 2, 100, 98, 2, 2, 10, 6}, {30, 1073741823, 98, 98, 0, 0, 10, 6},
            {1, 1073741822, 100, 98, 2, 2, 10, 6}, {30, 536870911, 100, 98, 2, 2, 10, 6},
        };
        for (int[] r : rows) {
            for (int what = 0; what < 6; what++) {
                due(12, "run(" + r[0] + ", " + r[1] + ", " + what + ")", x.run(r[0], r[1], what), r[2 + what]);
            }
        }
        due(12, "nothing truly", x.told(0, 0) + x.told(0, 14), 0);
        x.set(0, 0, 999);
        x.neighbour(5, 8);
        x.set(1, 0, 0);
        x.set(1, 0, 999);
        x.set(7, 0, 0);
        due(12, "beyond 999: a ghost in 999, 1002, 1005", x.run(7, 0, 2), 24);
        due(12, "count(2)", x.count(2), 999);
    }

    private static void cover() {
        SkipOfEightYards x = new SkipOfEightYards();
        int[][] bad = {{-1, 0}, {8, 0}, {0, -1}, {0, 2}};
        for (int[] b : bad) due(13, "cover(" + b[0] + ", " + b[1] + ")", x.cover(b[0], b[1]), -2);
        x.neighbour(0, 0);
        x.thing(82, 3);
        due(13, "cover(0, 0)", x.cover(0, 0), 0);
        due(13, "cover(0, 1)", x.cover(0, 1), 82);
        due(13, "nothing helps", x.cover(3, 0), 0);
        // 9 a night, three nights ahead: one of them must be covered, the first is the least as bits
        due(13, "cover(4, 0)", x.cover(4, 0), 1);
        due(13, "cover(4, 1)", x.cover(4, 1), 0);
        due(13, "cover(7, 0)", x.cover(7, 0), 1);
        x.set(1, 0, 91);
        due(13, "two of three", x.cover(4, 0), 3);
        x.set(1, 0, 82);
        due(13, "all three", x.cover(7, 0), 7);
        x.set(1, 0, 81);
        due(13, "none", x.cover(7, 0), 0);
        due(13, "none", x.cover(7, 1), 82);
        x.set(1, 0, 91);
        x.set(0, 0, 3);
        x.set(4, 0, 18);
        x.neighbour(2, 0);
        rule(x, "throws 1+8*(night=3);comes 1;pays 0;");
        // in night 3 the thief takes 9 and the neighbour throws 9, unless it is covered: then 82 fit in night 4
        due(13, "cover(2, 0)", x.cover(2, 0), 1);
        due(13, "cover(2, 1)", x.cover(2, 1), 0);
        due(13, "NIGHT", x.told(0, 0), 3);
    }

    private static void ask() {
        SkipOfEightYards x = new SkipOfEightYards();
        int[][] bad = {{-1, 0}, {8, 0}, {0, -1}, {0, 3}};
        for (int[] b : bad) due(14, "ask(" + b[0] + ", " + b[1] + ")", x.ask(b[0], b[1]), -2);
        due(14, "ask(7, 0) with nobody", x.ask(7, 0), 0);
        x.neighbour(0, 0);
        x.neighbour(1, 0);
        x.neighbour(2, 0);
        x.set(7, 2, 1);
        due(14, "ask(0, 0)", x.ask(0, 0), 0);
        // both pay: 9, and 18 for the asker's; the thief takes 9 and pays none, asked or not
        due(14, "ask(1, 0)", x.ask(1, 0), 3);
        due(14, "ask(1, 1)", x.ask(1, 1), 0);
        due(14, "ask(1, 2)", x.ask(1, 2), 27);
        x.thing(86, 1);
        // 9 a night stays behind (the neighbour's less the thief's: none): with the asker 18
        due(14, "ask(2, 0)", x.ask(2, 0), 1);
        due(14, "ask(2, 1)", x.ask(2, 1), 0);
        due(14, "ask(2, 2)", x.ask(2, 2), 18);
        due(14, "told(2, 7)", x.told(2, 7), 1);
        due(14, "told(0, 7)", x.told(0, 7), 0);
    }

    private static void best() {
        SkipOfEightYards x = new SkipOfEightYards();
        due(15, "best(-1)", x.best(-1), -1000);
        due(15, "best(6)", x.best(6), -1000);
        int[] none = {0, 0, 0, 0, -1, 0};
        for (int what = 0; what < 6; what++) due(15, "best(" + what + ")", x.best(what), none[what]);
        int[] bulks = {50, 30, 30, 20, 50};
        for (int bulk : bulks) x.thing(bulk, 6);
        // 50 + 30 + 20 (bits 0, 1, 3) and 50 + 50 fill it: 11 is the least as bits
        due(15, "best(0)", x.best(0), 11);
        due(15, "best(1)", x.best(1), 100);
        due(15, "behind 7 nights all that fits", x.best(2), 0);
        // the first two, then the 20: the night is 6
        due(15, "best(3)", x.best(3), 80);
        for (int thing = 0; thing < 5; thing++) x.set(5, thing, 9);
        due(15, "three nights later", x.best(2), 3);
        due(15, "best(3)", x.best(3), 80);
        x.set(5, 4, 13);
        x.set(1, 0, 999);
        due(15, "seven nights later", x.best(2), 7);
        due(15, "best(3)", x.best(3), 0);
        x.set(5, 4, 14);
        due(15, "that is too late too", x.best(2), 3);
        x.set(1, 0, 100);
        x.load(0);
        due(15, "without what is in it", x.best(0), 10);
        due(15, "best(1)", x.best(1), 50);
        x.set(1, 0, 10);
        due(15, "no room", x.best(0), 0);
        due(15, "no room", x.best(1), 0);
        x.neighbour(2, 0);
        due(15, "who takes alone", x.best(4), 0);
        due(15, "how much", x.best(5), -9);
        x.neighbour(0, 0);
        x.neighbour(5, 9);
        due(15, "the first of like ones", x.best(4), 1);
        due(15, "how much", x.best(5), 9);
        x.neighbour(1, 0);
        x.set(7, 3, 1);
        due(15, "twice", x.best(4), 3);
        due(15, "how much", x.best(5), 18);
    }

    private static void share() {
        SkipOfEightYards x = new SkipOfEightYards();
        due(16, "share(0), empty", x.share(0), NO);
        x.set(4, 0, 12);
        due(16, "share(0)", x.share(0), 0);
        due(16, "share(1)", x.share(1), 1);
        x.set(3, 0, 18);
        due(16, "share(0)", x.share(0), 3);
        due(16, "share(1)", x.share(1), 5);
        due(16, "share(2)", x.share(2), NO);
        due(16, "share(-1)", x.share(-1), NO);
        x.set(4, 0, 0);
        x.set(3, 0, 1);
        due(16, "share(0)", x.share(0), 1);
        due(16, "share(1)", x.share(1), 1);
    }

    private static void tells() {
        SkipOfEightYards x = new SkipOfEightYards();
        x.neighbour(0, 5);
        due(17, "tells(4, 0, 0)", x.tells(4, 0, 0), -2);
        due(17, "tells(-1, 0, 0)", x.tells(-1, 0, 0), -2);
        due(17, "tells(0, 1, 0), missing too", x.tells(0, 1, 0), -2);
        due(17, "tells(0, 0, 8), missing too", x.tells(0, 0, 8), -2);
        due(17, "tells(0, 0, -1), missing too", x.tells(0, 0, -1), -2);
        due(17, "tells(0, 0, 0), missing", x.tells(0, 0, 0), -11);
        x.sheet(0, 2, 21);
        due(17, "21 items", x.tells(0, 0, 0), -2);
        x.sheet(0, 2, 20);
        due(17, "20 items", x.tells(0, 0, 0), 0);
        tellsMore();
    }

    private static void tellsMore() {
        SkipOfEightYards x = new SkipOfEightYards();
        x.neighbour(2, 5);
        x.neighbour(5, 8);
        x.neighbour(4, 1);
        read(x, "throws 0-number-night;comes 1;pays 1;");
        read(x, "throws mine;comes 1;pays 1;");
        read(x, "throws (mine<20)*30+asked;comes 1;pays 1;");
        read(x, "throws full-40;comes 1;pays 1;");
        x.set(0, 0, 2);
        x.set(4, 0, 7);
        row(x, 0, 1, 7, 8, 9);
        x.force(1);
        int[] thief = {-1, 4, 32, 100, 0, 2, 1, 3};
        for (int what = 0; what < 8; what++) due(17, "thief, " + what, x.tells(0, 0, what), thief[what]);
        int[] ghost = {0, 0, 0, 0, -1, 0, 1, 0};
        for (int what = 0; what < 8; what++) due(17, "ghost, " + what, x.tells(0, 1, what), ghost[what]);
        row(x, 0, 1, 7, 8, 10);
        due(17, "the third is otherwise", x.tells(0, 0, 0), 2);
        row(x, 1, 0, 6, 0, 10);
        due(17, "a dealer", x.tells(1, 2, 0), -1);
        due(17, "a dealer's kinds", x.tells(1, 2, 1), 16);
        due(17, "a dealer's numbers", x.tells(1, 2, 2), 2);
        x.force(2);
        row(x, 2, 2, -33);
        due(17, "mine", x.tells(2, 0, 3), 1);
        due(17, "which", x.tells(2, 0, 4), 33);
        x.force(4);
        row(x, 2, 2, -60);
        due(17, "full: mine and theirs", x.tells(2, 0, 4), 93);
        x.force(3);
        row(x, 2, 2, -31);
        due(17, "asked", x.tells(2, 0, 7), 2);
        due(17, "mines, not asked", x.tells(2, 0, 3), 0);
        due(17, "which", x.tells(2, 0, 4), -1);
        x.set(7, 0, 1);
        due(17, "mines, asked", x.tells(2, 0, 3), 20);
        due(17, "which", x.tells(2, 0, 4), 0);
        x.set(3, 0, 9);
        read(x, "throws 50-mine;comes 1;pays 1;");
        x.force(5);
        row(x, 2, 2, 50);
        due(17, "were it 100", x.tells(2, 0, 3), 0);
        due(17, "were it 100", x.tells(2, 0, 4), -1);
        row(x, 2, 2, 49);
        due(17, "were it 99", x.tells(2, 0, 4), 99);
        x.force(3);
        row(x, 2, 2);
        int[] empty = {-1, 63, 1023, 100, 0, 63, 7, 3};
        for (int what = 0; what < 8; what++) due(17, "empty, " + what, x.tells(2, 0, what), empty[what]);
        due(17, "nothing truly", x.told(0, 3) * 1000 + x.told(0, 0) * 10 + x.count(5), 9023);
    }

    private static void film() {
        SkipOfEightYards x = new SkipOfEightYards();
        due(18, "film(0, 0, 0), nobody", x.film(0, 0, 0), -2);
        x.neighbour(4, 0);
        due(18, "film(4, 0, 0)", x.film(4, 0, 0), -2);
        due(18, "film(-1, 0, 0)", x.film(-1, 0, 0), -2);
        due(18, "film(0, 1, 0)", x.film(0, 1, 0), -2);
        due(18, "film(0, 0, 21)", x.film(0, 0, 21), -2);
        due(18, "film(0, 0, -1)", x.film(0, 0, -1), -2);
        due(18, "film(0, 0, 20)", x.film(0, 0, 20), 20);
        due(18, "read back", x.tells(0, 0, 0), -1);
        row(x, 1, 0, -18, 0, -18, 0);
        due(18, "film(0, 0, 4)", x.film(0, 0, 4), 4);
        due(18, "no more than that", x.cell(0, 4, 0), -12);
        due(18, "bytes", x.copy(0, 0, 1, 0, 4), 4);
        due(18, "the same", x.tells(1, 0, 0), -1);
        row(x, 1, 0, -18, 0, -18, 0);
        due(18, "by hand", x.tells(1, 0, 0), -1);
        due(18, "NIGHT", x.told(0, 0), 0);
        x.neighbour(0, 0);
        x.set(0, 0, 998);
        rule(x, "throws night-990;comes 1;pays 1;");
        due(18, "film(3, 1, 4)", x.film(3, 1, 4), 4);
        row(x, 1, 0, 8, 9, 10, 11);
        due(18, "as by hand", x.tells(1, 1, 0), -1);
        due(18, "as by film", x.tells(3, 1, 0), -1);
        due(18, "film(2, 0, 0)", x.film(2, 0, 0), 0);
        due(18, "a row of none", x.cell(2, 0, 0), -12);
    }

    private static void drawn() {
        SkipOfEightYards x = new SkipOfEightYards();
        x.thing(92, 1);
        x.thing(83, 2);
        x.neighbour(0, 0);
        due(19, "drawn(0, -1)", x.drawn(0, -1), -2);
        due(19, "drawn(0, 31)", x.drawn(0, 31), -2);
        due(19, "drawn(7, 0)", x.drawn(7, 0), 175);
        for (int seed = -40; seed < 40; seed++) {
            int z = seed * 1103515245 + 12345;
            boolean first = (z >>> 9 & 1) == 1;
            z = z * 1103515245 + 12345;
            boolean second = (z >>> 9 & 1) == 1;
            due(19, "drawn(" + seed + ", 2)", x.drawn(seed, 2), first ? 83 : 175);
            due(19, "drawn(" + seed + ", 3)", x.drawn(seed, 3), first ? 83 : second ? 92 : 175);
        }
        due(19, "drawn(MAX, 30)", x.drawn(Integer.MAX_VALUE, 30) > 0 ? 1 : 0, 1);
        due(19, "NIGHT", x.told(0, 0), 0);
    }

    private static void chance() {
        SkipOfEightYards x = new SkipOfEightYards();
        x.thing(92, 1);
        x.neighbour(0, 0);
        int[][] bad = {{0, 0, 0}, {21, 0, 0}, {-1, 0, 0}, {1, -1, 0}, {1, 1000, 0}, {1, 0, 2}, {1, 0, -1}};
        for (int[] b : bad) due(20, "chance(3, " + b[0] + ", " + b[1] + ", " + b[2] + ")", x.chance(3, b[0], b[1], b[2]), NO);
        for (int m = 1; m <= 20; m++) {
            int many = 0;
            for (int seed = 5; seed < 5 + m; seed++) {
                if (((seed * 1103515245 + 12345) >>> 9 & 1) == 1) many++;
            }
            int common = m;
            while (many % common != 0 || m % common != 0) common--;
            due(20, "chance(5, " + m + ", 91, 0)", x.chance(5, m, 91, 0), many / common);
            due(20, "chance(5, " + m + ", 91, 1)", x.chance(5, m, 91, 1), m / common);
            due(20, "chance(5, " + m + ", 92, 0)", x.chance(5, m, 92, 0), 1);
            due(20, "chance(5, " + m + ", 999, 1)", x.chance(5, m, 999, 1), 1);
        }
        SkipOfEightYards y = new SkipOfEightYards();
        y.thing(1, 4);
        due(20, "ready in the fifth night", y.chance(0, 7, 0, 0), 1);
        y.set(5, 0, 5);
        due(20, "ready in the sixth night", y.chance(0, 7, 0, 0), 0);
        x.set(1, 0, 0);
        due(20, "none of them", x.chance(Integer.MAX_VALUE, 20, 91, 0), 0);
        due(20, "none of them", x.chance(Integer.MAX_VALUE, 20, 91, 1), 1);
    }

    private static void imageAndBack() {
        SkipOfEightYards x = new SkipOfEightYards();
        due(22, "back(), none", x.back(), -3);
        x.thing(20, 3);
        x.neighbour(1, 4);
        x.neighbour(2, 5);
        x.set(7, 1, 1);
        x.set(4, 0, 6);
        due(21, "image()", x.image(), 2);
        read(x, RULE);
        x.force(1);
        x.load(0);
        x.thing(5, 5);
        x.load(1);
        x.neighbour(0, 0);
        int[][] changes = {{0, 0, 9}, {1, 0, 50}, {2, 0, 1}, {4, 0, 1}, {5, 0, 8}, {6, 0, 9}, {7, 0, 1}, {7, 1, 0}, {7, 2, 1}};
        for (int[] c : changes) x.set(c[0], c[1], c[2]);
        x.sheet(0, 0, 3);
        x.feed('t');
        for (int turn = 0; turn < 2; turn++) {
            due(22, "back()", x.back(), 2);
            int[] numbers = {0, 100, 0, 0, 6, 3, 4, 0, 20, 0, 1};
            for (int what = 0; what < numbers.length; what++) due(22, "told(0, " + what + ")", x.told(0, what), numbers[what]);
            due(22, "told(1, 7)", x.told(1, 7), 1);
            due(22, "the third went", x.told(2, 7), -1000);
            int[] counts = {2, 1, 0, 2, 1, 0};
            for (int what = 0; what < counts.length; what++) due(22, "count(" + what + ")", x.count(what), counts[what]);
            due(22, "sheets stay", x.cell(0, 2, 1), 1);
            due(22, "one anew", x.thing(7, 7), 1);
            due(22, "not in it", x.told(1, 9), 0);
            due(22, "one anew", x.neighbour(3, 3), 2);
            due(22, "not asked", x.told(2, 7), 0);
            x.set(6, 0, 0);
        }
        due(21, "image() anew", x.image(), 3);
        due(22, "back() to it", x.back(), 3);
        due(22, "the number then", x.told(0, 6), 0);
    }

    private static void count() {
        SkipOfEightYards x = new SkipOfEightYards();
        due(23, "count(-1)", x.count(-1), -2);
        due(23, "count(6)", x.count(6), -2);
        x.neighbour(0, 0);
        x.thing(1, 1);
        x.thing(1, 1);
        x.set(0, 0, 44);
        rule(x, RULE);
        x.feed(1);
        int[] counts = {1, 2, 44, 2, 1, 1};
        for (int what = 0; what < 6; what++) due(23, "count(" + what + ")", x.count(what), counts[what]);
    }

    private static void sheet() {
        SkipOfEightYards x = new SkipOfEightYards();
        due(24, "sheet(4, 0, 1)", x.sheet(4, 0, 1), -2);
        due(24, "sheet(-1, 0, 1)", x.sheet(-1, 0, 1), -2);
        due(24, "sheet(0, 3, 1)", x.sheet(0, 3, 1), -2);
        due(24, "sheet(0, -2, 1)", x.sheet(0, -2, 1), -2);
        due(24, "sheet(0, 0, 41)", x.sheet(0, 0, 41), -2);
        due(24, "sheet(0, 0, -1)", x.sheet(0, 0, -1), -14);
        due(24, "sheet(0, 3, -1)", x.sheet(0, 3, -1), -2);
        due(24, "sheet(0, 2, 40)", x.sheet(0, 2, 40), 1);
        due(24, "cell(0, 39, 1)", x.cell(0, 39, 1), 1);
        due(24, "cell(0, 40, 1)", x.cell(0, 40, 1), -12);
        due(24, "a refusal changes nothing", x.sheet(0, 0, 41), -2);
        due(24, "cell(0, 39, 1)", x.cell(0, 39, 1), 1);
        due(24, "sheet(0, -1, -99)", x.sheet(0, -1, -99), 1);
        due(24, "missing then", x.cell(0, 0, 1), -11);
        due(24, "sheet(0, -1, 99)", x.sheet(0, -1, 99), 1);
        x.neighbour(5, 3);
        row(x, 1, 1, 3, 3);
        due(24, "sheet(1, 1, 2)", x.sheet(1, 1, 2), 1);
        due(24, "all 0 then", x.tells(1, 0, 2), 1);
    }

    private static void cell() {
        SkipOfEightYards x = new SkipOfEightYards();
        due(25, "cell(4, 0, 0)", x.cell(4, 0, 0), -2);
        due(25, "cell(-1, 0, 0)", x.cell(-1, 0, 0), -2);
        due(25, "cell(0, 0, 0)", x.cell(0, 0, 0), -11);
        due(25, "cell(0, -5, 0), missing", x.cell(0, -5, 0), -11);
        x.neighbour(5, 3);
        x.neighbour(2, 0);
        int[][] same = {{0, 256 + 3}, {1, 65536 + 3}, {2, 3}, {0, -253}, {1, -65533}};
        for (int[] s : same) {
            x.sheet(0, s[0], 1);
            due(25, "cell(0, 0, " + s[1] + ")", x.cell(0, 0, s[1]), 1);
            due(25, "3 of sort " + s[0], x.tells(0, 0, 0), -1);
        }
        int[][] other = {{1, 259}, {2, 65539}, {2, 259}};
        for (int[] o : other) {
            row(x, 0, o[0], o[1]);
            due(25, o[1] + " of sort " + o[0], x.tells(0, 0, 0), 0);
        }
        int[][] below = {{0, 247}, {1, 65527}, {2, -9}};
        for (int[] b : below) {
            row(x, 0, b[0], b[1]);
            due(25, "-9 of sort " + b[0], x.tells(0, 1, 0), -1);
        }
        due(25, "cell(0, 1, 0)", x.cell(0, 1, 0), -12);
        due(25, "cell(0, -1, 0)", x.cell(0, -1, 0), -12);
        due(25, "cell(0, MIN, 0)", x.cell(0, Integer.MIN_VALUE, 0), -12);
    }

    private static void copy() {
        SkipOfEightYards x = new SkipOfEightYards();
        due(26, "copy(4, ..)", x.copy(4, 0, 0, 0, 0), -2);
        due(26, "copy(.., 4)", x.copy(0, 0, 4, 0, 0), -2);
        due(26, "copy(.., -1)", x.copy(0, 0, -1, 0, 0), -2);
        due(26, "both missing", x.copy(0, 0, 1, 0, 0), -11);
        row(x, 0, 0, 1, 2, 3, 4);
        due(26, "one missing", x.copy(0, 0, 1, 0, -1), -11);
        due(26, "one missing", x.copy(1, 0, 0, 0, -1), -11);
        x.sheet(1, 1, 4);
        due(26, "unlike sorts", x.copy(0, 0, 1, 0, -1), -13);
        x.sheet(1, 0, 3);
        int max = Integer.MAX_VALUE;
        int min = Integer.MIN_VALUE;
        int[][] outside = {{0, 0, -1}, {-1, 0, 1}, {0, -1, 1}, {0, 0, 4}, {3, 0, 2}, {0, 2, 2}, {5, 0, 0}, {0, 4, 0}, {-1, 0, 0},
            {max, 0, 1}, {0, max, 1}, {0, 0, max}, {max, max, max}, {min, 0, 1}, {0, min, max}, {1, 1, min}};
        for (int[] o : outside) due(26, "copy(0, " + o[0] + ", 1, " + o[1] + ", " + o[2] + ")", x.copy(0, o[0], 1, o[1], o[2]), -12);
        due(26, "copy(0, 4, 1, 3, 0)", x.copy(0, 4, 1, 3, 0), 0);
        due(26, "copy(0, 1, 1, 0, 3)", x.copy(0, 1, 1, 0, 3), 3);
        x.neighbour(5, 0);
        rule(x, "throws 1;comes 1;pays 1;");
        holds(x, 1, 2, 3, 4);
        due(26, "copy(0, 0, 0, 1, 3)", x.copy(0, 0, 0, 1, 3), 3);
        holds(x, 0, 1, 1, 2, 3);
        row(x, 0, 0, 1, 2, 3, 4);
        due(26, "copy(0, 1, 0, 0, 3)", x.copy(0, 1, 0, 0, 3), 3);
        holds(x, 0, 2, 3, 4, 4);
    }

    /** Asks a sheet's items one by one: a ghost with such a number throws so much. */
    private static void holds(SkipOfEightYards x, int sheet, int... items) {
        for (int i = 0; i < items.length; i++) {
            x.sheet(3, 0, 1);
            x.copy(sheet, i, 3, 0, 1);
            due(26, "item " + i + " of sheet " + sheet, x.tells(3, 0, 2), 1 << items[i]);
        }
    }

    private static void street() {
        SkipOfEightYards x = new SkipOfEightYards();
        due(27, "street(4, 0, 0, 0)", x.street(4, 0, 0, 0), -2);
        due(27, "street(-1, 0, 0, 0)", x.street(-1, 0, 0, 0), -2);
        due(27, "street(0, 3, 0, 0)", x.street(0, 3, 0, 0), -2);
        due(27, "street(0, -1, 0, 0)", x.street(0, -1, 0, 0), -2);
        due(27, "street(0, 0, 0, 6)", x.street(0, 0, 0, 6), -2);
        due(27, "street(0, 0, 0, -1)", x.street(0, 0, 0, -1), -2);
        due(27, "street(0, 0, 0, 0), missing", x.street(0, 0, 0, 0), -11);
        row(x, 0, 2, 9, 5, 4, 6, 0, 2, 10, 1, 7, 0);
        due(27, "street(0, 1, 99, 5)", x.street(0, 1, 99, 5), -13);
        due(27, "street(0, 2, 0, 0)", x.street(0, 2, 0, 0), 0);
        due(27, "street(0, 2, -1, 1)", x.street(0, 2, -1, 1), -12);
        due(27, "street(0, 2, 10, 1)", x.street(0, 2, 10, 1), -12);
        due(27, "street(0, 2, 9, 1)", x.street(0, 2, 9, 1), -12);
        due(27, "street(0, 2, MAX, 5)", x.street(0, 2, Integer.MAX_VALUE, 5), -12);
        due(27, "street(0, 2, MIN, 5)", x.street(0, 2, Integer.MIN_VALUE, 5), -12);
        due(27, "none came", x.count(0), 0);
        due(27, "street(0, 2, 1, 4): a ghost, no kind 6, no number 10, an asker", x.street(0, 2, 1, 4), 2);
        due(27, "the ghost", x.told(0, 10) * 10 + x.told(0, 6), 54);
        due(27, "the asker", x.told(1, 10) * 10 + x.told(1, 6), 17);
        due(27, "street(0, 2, 1, 5): it ends", x.street(0, 2, 1, 5), -12);
        due(27, "what stood ahead came", x.count(0), 4);
        due(27, "its last two, none such", x.street(0, 2, 8, 1), 0);
        due(27, "only one has room", x.street(0, 2, 1, 4), 1);
        due(27, "five", x.count(0), 5);
        due(27, "nobody has room", x.street(0, 2, 1, 4), 0);
        due(27, "nobody has room, and it ends", x.street(0, 2, 1, 5), -12);
    }

    private static void taken() {
        SkipOfEightYards x = new SkipOfEightYards();
        due(28, "taken(0, 6), nobody", x.taken(0, 6), -2);
        due(28, "taken(0, -1), nobody", x.taken(0, -1), -2);
        due(28, "taken(0, 0), nobody", x.taken(0, 0), -11);
        due(28, "taken(-1, 0)", x.taken(-1, 0), -11);
        boolean[][] under = {
            {true, false, false, false, false, false}, {true, true, false, false, false, false},
            {true, false, true, false, false, false}, {true, true, false, true, false, false},
            {true, false, true, false, true, false}, {true, false, false, false, false, true},
        };
        for (int kind = 0; kind < 6; kind++) {
            SkipOfEightYards y = new SkipOfEightYards();
            y.neighbour(0, 1);
            y.neighbour(kind, 7);
            for (int k = 0; k < 6; k++) {
                due(28, "kind " + kind + ": taken(1, " + k + ")", y.taken(1, k), under[kind][k] ? 7 : -13);
            }
            due(28, "taken(2, 0)", y.taken(2, 0), -11);
        }
    }

    public static void main(String[] args) {
        newObject();
        set();
        thing();
        neighbour();
        told();
        comesBelow0();
        pays();
        feed();
        text();
        values();
        force();
        night();
        load();
        run();
        cover();
        ask();
        best();
        share();
        tells();
        film();
        drawn();
        chance();
        imageAndBack();
        count();
        sheet();
        cell();
        copy();
        street();
        taken();
        System.out.println(asked + " answers asked, " + wrong + " not as due");
        if (wrong != 0) System.exit(1);
    }
}
