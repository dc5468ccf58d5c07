/** The boundary cases of promises 7 to 9: the tape, the texts, the rule. */
public final class TextBoundaryTest {
    private static final int MIN = Boundary.MIN, MAX = Boundary.MAX;
    private static final int BAD = Boundary.BAD, FULL = Boundary.FULL;
    private static final String SOUND = "throws 9 ; comes 1 ; pays 1 ;";

    private static void feed() {
        for (int letter : new int[] {-1, 256, MIN, MAX}) {
            Boundary.at(7, "a byte (0 .. 255): " + letter).furnished().still(BAD, x -> x.feed(letter));
        }
        for (int letter : new int[] {0, 255}) {
            Boundary.at(7, "a byte (0 .. 255): " + letter).due(1, x -> x.feed(letter)).due(1, x -> x.count(4))
                .due(2, x -> x.feed(letter));
        }
        Boundary.at(7, "160 bytes at most: the last").given(x -> blanks(x, 159)).due(160, x -> x.feed(32))
            .due(160, x -> x.count(4));
        Boundary.at(7, "160 bytes at most: one more").given(x -> blanks(x, 160)).still(FULL, x -> x.feed(32));
        Boundary.at(7, "BAD ahead of FULL").given(x -> blanks(x, 160)).still(BAD, x -> x.feed(-1)).still(BAD, x -> x.feed(256));
        Boundary.at(7, "empty again behind a TEXT").given(x -> Boundary.read(x, SOUND)).due(1, x -> x.feed(32));
        Boundary.at(7, "empty again behind a FAULT, when it was full").given(x -> blanks(x, 160)).due(-260, x -> x.text())
            .due(0, x -> x.count(4)).due(1, x -> x.feed(32));
    }

    private static int blanks(SkipOfEightYards x, int many) {
        for (int i = 0; i < many; i++) x.feed(i % 2 == 0 ? 32 : 10);
        return many;
    }

    /** A text that is sound, and so the first one more than TEXT 0; the tape is empty then. */
    private static void sound(String says, String text) {
        Boundary.at(8, says + ": " + text).given(x -> Boundary.feedAll(x, text)).due(1, x -> x.text()).due(0, x -> x.count(4))
            .due(2, x -> x.count(3)).due(0, x -> x.force(1));
    }

    /** A ^ stands ahead of the token that can't stand there; the tape is empty then, and there is no text more. */
    private static void fault(String says, String marked) {
        int place = marked.indexOf('^');
        String text = marked.substring(0, place) + marked.substring(place + 1);
        Boundary.at(8, says + ": " + marked).given(x -> Boundary.feedAll(x, text)).due(-100 - place, x -> x.text())
            .due(0, x -> x.count(4)).due(1, x -> x.count(3))
            .due(BAD, x -> x.force(1)).due(1, x -> Boundary.read(x, SOUND));
    }

    private static void endsTooEarly() {
        fault("the text's size, if it ends too early: empty", "^");
        fault("the text's size, if it ends too early: blanks alone", "  \n ^");
        String[] tokens = {"throws", "(", "-", "full", "+", "1", "*", "2", "<", "3", "and", "not", "4", "or", "5", "=", "6",
            ")", ";", "comes", "1", ";", "pays", "1"};
        StringBuilder text = new StringBuilder();
        for (String token : tokens) {
            text.append(token);
            fault("the text's size, if it ends too early", text + "^");
            text.append(' ');
            fault("the text's size, if it ends too early", text + "^");
        }
        sound("ends just there", text + ";");
    }

    private static void goesOnTooLong() {
        for (String more : new String[] {";", "throws", "1", "full", ")", "pays", "a", "$"}) {
            fault("behind its end", SOUND + "^" + more);
            fault("behind its end", SOUND + " \n^" + more);
        }
        sound("blanks behind its end", SOUND + " \n ");
        sound("blanks ahead of it", " \n " + SOUND);
        sound("no blanks", "throws9;comes1;pays1;");
        sound("blanks between all", "throws \n ( 9 \n ) ; \n comes 1 ; pays \n\n 1 \n;");
    }

    private static void bytes() {
        for (int letter : new int[] {0, 1, 9, 11, 13, 31, 33, 34, 35, 39, 44, 46, 47, 58, 62, 63, 65, 90, 95, 96, 123, 124,
            127, 128, 160, 255}) {
            fault("a byte that begins none, " + letter, "throws 1^" + (char) letter + ";comes 1;pays 1;");
        }
        fault("a byte that begins none, at first", "^$throws 1;");
        fault("a byte that begins none, behind a WORD", "throws full^$;");
        fault("a WORD ends where a byte begins none", "throws ^fu$ll;");
        fault("a byte that begins none, within a NUMBER", "throws 1^.5;");
        fault("a byte that begins none, behind another FAULT", "throws ^; $");
        fault("a byte that begins none, at last", SOUND + "^$");
        for (String blank : new String[] {" ", "\n", " \n", "\n "}) {
            sound("blanks (32, 10)", "throws" + blank + "1" + blank + ";comes 1;pays 1;");
        }
    }

    private static void words() {
        String[] none = {"a", "z", "fulls", "ful", "throw", "comesx", "pay", "fullnumber", "notfull", "no", "nott", "o",
            "orr", "an", "andd", "theirs", "size", "xfull", "throwscomes",
            "fullz", "zfull", "gull", "cumber", "might", "damp", "tasked", "nine", "br", "end", "hot", "fulk", "lamq", "mines"};
        for (String word : none) fault("a WORD that is neither KEY nor NAME", "throws ^" + word + ";comes 1;pays 1;");
        for (String name : new String[] {"full", "number", "night", "lamp", "asked", "mine"}) {
            sound("a NAME", "throws " + name + ";comes 1;pays 1;");
        }
        for (String key : new String[] {"throws", "comes", "pays", "or", "and"}) {
            fault("a KEY that can't stand there", "throws ^" + key + ";comes 1;pays 1;");
        }
        fault("WORDS as long as can be", "^throwsfull;comes 1;pays 1;");
        fault("WORDS as long as can be", "throws 1 ^andnot 1;comes 1;pays 1;");
        fault("a KEY of its part alone", "^comes 1;pays 1;throws 1;");
        fault("a KEY of its part alone", "throws 1;^pays 1;comes 1;");
        fault("a KEY of its part alone", "throws 1;comes 1;^throws 1;");
        fault("a NAME ahead of all", "^full");
        sound("WORDS end where a digit begins", "throws not1and 2or 3;comes1;pays1;");
    }

    private static void numbers() {
        for (String number : new String[] {"0", "9", "9999", "0000", "0009"}) {
            sound("4 digits at most", "throws " + number + ";comes 1;pays 1;");
        }
        for (String number : new String[] {"00000", "10000", "12345", "99999", "123456789012345678901234567890"}) {
            fault("a NUMBER that is too long", "throws ^" + number + ";comes 1;pays 1;");
        }
        fault("a NUMBER that is too long, where none can stand", "throws 1 ^12345;");
        fault("a NUMBER that is too long, in the last part", "throws 1;comes 1;pays 1+^12345;");
        fault("a NUMBER that is too long, at last", "throws 1;comes 1;pays ^99999");
        fault("as many digits as stand there", "throws 1234 ^5;comes 1;pays 1;");
        fault("a NUMBER ahead of all", "^1");
        fault("behind another FAULT", "throws ^) 12345;");
    }

    private static void tokensThatCantStandThere() {
        String[] marked = {
            "throws ^;", "throws 1^)", "throws (^)", "throws (1^;", "throws ^+1;", "throws ^*1;", "throws ^<1;",
            "throws ^=1;", "throws 1+^+1;", "throws 1*^*1;",
            "throws 1 ^1;", "throws 1 ^full;", "throws 1 ^(1);", "throws (1)^(1);", "throws full ^not 1;", "throws 1<2^<3;",
            "throws 1=2^=3;", "throws 1<2^=3;",
            "throws 1=2^<3;", "throws not 1<2^<3;", "throws 1+^not 1;", "throws 1<^not 1;", "throws 1*^not 1;",
            "throws -^not 1;", "throws 1 or^;", "throws 1 and^;",
            "throws not^;", "throws -^;", "throws 1 and ^or 1;", "throws 1;^;", "throws 1;comes ^;",
            "throws 1;comes 1;pays ^;", "throws 1;comes 1;pays 1^)", "^;", "^(", "^-", "^not",
        };
        for (String m : marked) fault("the first TOKEN that can't stand there", m);
        sound("- ahead of a ONE behind a SIGN", "throws 1--1+-1*-1<-1;comes 1;pays 1;");
        sound("not behind and, or, not, (", "throws not not 1 and not 1 or not(not 1);comes 1;pays 1;");
        sound("< and = anew behind and, or, in ( )", "throws 1<2 and 1=2 or (1<2)=(1=2);comes 1;pays 1;");
    }

    private static void open() {
        String rest = ";comes 1;pays 1;";
        for (String five : new String[] {"(((((1)))))", "not not not not not 1", "-----1", "not(-(-1))", "(not(-(1)))",
            "((((-1))))", "not not(not(1))", "----(1)", "((((not 1))))"}) {
            sound("5 of these open", "throws " + five + rest);
        }
        for (String six : new String[] {"(((((^(1", "not not not not not ^not 1", "-----^-1", "-----^(1)", "(((((^-1",
            "(((((^not 1", "not not not not not ^-1", "not not not not not ^(1", "((((-^-1",
            "not(not(-^(1", "(not(-(^(1)", "((((not ^(1"}) {
            fault("a sixth while 5 of these are open", "throws " + six + rest);
        }
        fault("also in the second part", "throws 1;comes (((((^(1");
        fault("also in the third part", "throws 1;comes 1;pays -----^-1;");
        sound("each part begins with none open", "throws (((((1)))));comes -----1;pays not not not not not 1;");
    }

    private static void closed() {
        String rest = ";comes 1;pays 1;";
        sound("a ( till its )", "throws (((((1)))))+(((((1)))))" + rest);
        sound("a ( till its ), the fourth anew", "throws (((-(1)+-(2)+((3)))))" + rest);
        sound("a ( till its ), the fifth anew", "throws (((((1)+(2)+-3))))" + rest);
        fault("a ( till its ), four and two more", "throws ((((1)+((^(1");
        sound("- till its ONE ends", "throws -----1--1------1" + rest);
        fault("- till its ONE ends", "throws 1------^-1" + rest);
        sound("- ends ahead of *", "throws -----1*-----1*(((((1)))))" + rest);
        fault("- is open in its ( )", "throws -((((^(1");
        sound("not till its NOT ends", "throws not not not not not 1 and(((((1)))))or not not not not not 1" + rest);
        fault("not is open behind <", "throws not 1<((((^(1");
        sound("not is open behind <, 5 of these", "throws not 1<((((1))))" + rest);
        fault("not is open behind =", "throws not not not not not 1=^-1");
        fault("not is open behind +", "throws not not not not not 1+^(1)");
        fault("not is open behind *", "throws not not not not not 1*^-1");
        sound("not is not open behind and", "throws not not not not not 1 and-----1" + rest);
        sound("a - between is not open", "throws -----1-1-1-1-1-1-1-1" + rest);
        sound("not within ( ) ends with it", "throws (not(1 and not(1)))+(((((1)))))" + rest);
    }

    private static void longest() {
        StringBuilder text = new StringBuilder("throws 1;comes 1;pays 1");
        while (text.length() < 157) text.append("+1");
        while (text.length() < 159) text.append(' ');
        sound("160 bytes", text + ";");
        fault("160 bytes, the last one missing", text + " ^");
        fault("160 bytes, the last one can't stand there", text + "^)");
        StringBuilder digit = new StringBuilder("throws 1;comes 1;pays  1");
        while (digit.length() < 160) digit.append("+1");
        fault("160 bytes, the last one a digit", digit + "^");
        digit.replace(155, 160, " full");
        fault("160 bytes, the last one a letter", digit + "^");
        Boundary.at(8, "160 bytes: all of them count").given(x -> x.neighbour(0, 0)).given(x -> Boundary.rule(x, ones(70)))
            .due(70, x -> x.told(0, 11)).due(0, x -> x.count(4));
    }

    /** What stood on the tape ahead of that does not count. */
    private static void behindOthers() {
        String[][] rows = {
            {"throws 9999", "throws 1", "-108"}, {"throwsthrows", "throws", "-106"}, {"throws fullfull", "throws full", "-111"},
            {SOUND + ")", "throws 9 ; comes 1 ; pays 1", "-127"}, {"throws 1;;;;;;;;", "throws 1", "-108"},
            {SOUND + SOUND, SOUND, "1"},
        };
        for (String[] row : rows) {
            Boundary.at(8, "THE TAPE is empty then: \"" + row[1] + "\" behind \"" + row[0] + "\"")
                .due(1, x -> Boundary.read(x, row[0]) <= -100 ? 1 : 0).due(Integer.parseInt(row[2]), x -> Boundary.read(x, row[1]));
        }
        Boundary.at(8, "a TEXT of 160 bytes, a FAULT as long, and another TEXT").given(x -> x.neighbour(0, 0))
            .given(x -> Boundary.rule(x, ones(70))).due(70, x -> x.told(0, 11))
            .due(-258, x -> Boundary.read(x, ones(70).substring(0, 158) + "+;"))
            .due(1, x -> Boundary.rule(x, "throws 3;comes 0;pays 1;")).due(3, x -> x.told(0, 11)).due(0, x -> x.told(0, 13))
            .due(2, x -> Boundary.rule(x, ones(40))).due(40, x -> x.told(0, 11)).due(1, x -> x.told(0, 13))
            .due(3, x -> x.force(1)).due(70, x -> x.told(0, 11));
    }

    private static String ones(int many) {
        StringBuilder text = new StringBuilder("throws 1");
        for (int i = 1; i < many; i++) text.append("+1");
        return text.append(";comes1;pays1;").toString();
    }

    private static void howMany() {
        Boundary.at(8, "6 at most: the last").given(x -> texts(x, 4)).given(x -> Boundary.feedAll(x, SOUND)).due(5, x -> x.text())
            .due(6, x -> x.count(3)).due(0, x -> x.count(4));
        Boundary.at(8, "6 at most: one more").given(x -> texts(x, 5)).given(x -> Boundary.feedAll(x, SOUND))
            .still(FULL, x -> x.text()).due(29, x -> x.count(4));
        Boundary.at(8, "FULL ahead of a FAULT").given(x -> texts(x, 5)).given(x -> Boundary.feedAll(x, "throws ;"))
            .still(FULL, x -> x.text()).due(8, x -> x.count(4));
        Boundary.at(8, "FULL ahead of an empty TAPE").given(x -> texts(x, 5)).still(FULL, x -> x.text()).due(0, x -> x.count(4));
        Boundary.at(8, "FULL: THE TAPE stays, and goes on").given(x -> texts(x, 5)).given(x -> x.feed(32))
            .due(FULL, x -> x.text()).due(2, x -> x.feed(32));
        Boundary.at(8, "a FAULT makes no TEXT").given(x -> texts(x, 4)).due(-100, x -> x.text()).due(5, x -> x.count(3))
            .due(5, x -> Boundary.read(x, SOUND)).due(FULL, x -> x.text());
        Boundary.at(8, "a FAULT leaves THE RULE and the TEXTS").given(x -> x.neighbour(0, 0))
            .given(x -> Boundary.rule(x, "throws 7;comes 0;pays 2;")).due(-111, x -> Boundary.read(x, "throws 1+2*;"))
            .due(7, x -> x.told(0, 11)).due(0, x -> x.told(0, 13)).due(1, x -> x.force(0)).due(9, x -> x.told(0, 11));
        Boundary.at(8, "a TEXT is not THE RULE ahead of force()").given(x -> x.neighbour(0, 0))
            .given(x -> Boundary.read(x, "throws 7;comes 0;pays 2;")).due(0, x -> x.count(5)).due(9, x -> x.told(0, 11));
    }

    private static int texts(SkipOfEightYards x, int many) {
        for (int i = 0; i < many; i++) Boundary.read(x, "throws " + i + ";comes 1;pays 1;");
        return many;
    }

    /** What throws tells, told by a neighbour whose number is 5 in night 12, lit, asked, mine 30, theirs 40. */
    private static void value(String says, String e, int due) {
        Boundary.at(8, says + ": " + e).given(x -> x.neighbour(0, 5)).given(x -> x.set(0, 0, 12)).given(x -> x.set(2, 0, 1))
            .given(x -> x.set(3, 0, 30))
            .given(x -> x.set(4, 0, 40)).given(x -> x.set(7, 0, 1))
            .given(x -> Boundary.rule(x, "throws " + e + ";comes 1;pays 1;")).due(due, x -> x.told(0, 11));
    }

    /** 2 to the 31st is 8192 * 8192 * 32. */
    private static void wrapping() {
        value("32 bits, wrapping: the most", "(8192*8192*32-1=8192*8192*31+8192*8191+8191)*7", 7);
        value("32 bits, wrapping: the most is above 0", "8192*8192*32-1", 99);
        value("32 bits, wrapping: 1 more than the most", "8192*8192*32-1+1", -99);
        value("32 bits, wrapping: 1 more than the most is below 0", "(8192*8192*32<0)*7", 7);
        value("32 bits, wrapping: 1 less than the least", "8192*8192*32+-1", 99);
        value("32 bits, wrapping: - of the least is the least", "(-(8192*8192*32)=8192*8192*32)*7", 7);
        value("32 bits, wrapping: twice the least", "8192*8192*64", 0);
        value("32 bits, wrapping: twice the least and some", "8192*8192*64+8", 8);
        value("32 bits, wrapping: NUMBERS", "9999*9999*9999", Math.max(-99, Math.min(99, 9999 * 9999 * 9999)));
        value("32 bits, wrapping: NUMBERS", "9999*9999*9999*9999", Math.max(-99, Math.min(99, 9999 * 9999 * 9999 * 9999)));
        value("32 bits, wrapping: the least is less than the most", "(8192*8192*32<8192*8192*32-1)*7", 7);
        value("32 bits, wrapping: the most is not less than the least", "(8192*8192*32-1<8192*8192*32)*7", 0);
        value("32 bits, wrapping: the least is true", "not(8192*8192*32)", 0);
        value("32 bits, wrapping: the least and the least", "8192*8192*32 and 8192*8192*32", 1);
        value("32 bits, wrapping: + of the least twice", "8192*8192*32+8192*8192*32", 0);
    }

    private static void truth() {
        Object[][] rows = {
            {"0 or 0", 0}, {"0 or 7", 1}, {"-7 or 0", 1}, {"7 or 7", 1}, {"0 and 7", 0}, {"7 and 0", 0}, {"-1 and 7", 1},
            {"4 and 3", 1}, {"not 0", 1}, {"not 7", 0}, {"not -1", 0},
            {"3<4", 1}, {"4<4", 0}, {"5<4", 0}, {"-1<0", 1}, {"0<-1", 0}, {"4=4", 1}, {"4=5", 0}, {"-0=0", 1}, {"not 1=2", 1},
            {"not not 7", 1}, {"1 or 0 and 0", 1}, {"(1 or 0)and 0", 0},
            {"not 0 and 0", 0}, {"2+3*4", 14}, {"9-4-3", 2}, {"-2*3", -6}, {"2--3", 5},
        };
        for (Object[] row : rows) value("1 or 0 (what is not 0 is true)", (String) row[0], (Integer) row[1]);
    }

    private static void bounds() {
        for (int v : new int[] {98, 99, 100, 9999}) value("throws (-99 .. 99, else the bound)", "" + v, Math.min(v, 99));
        for (int v : new int[] {-98, -99, -100, -9999}) value("throws (-99 .. 99, else the bound)", "" + v, Math.max(v, -99));
        for (int v : new int[] {0, 1, -1}) value("throws (-99 .. 99, else the bound)", "" + v, v);
        value("the names", "full", 70);
        value("the names", "number", 5);
        value("the names", "night", 12);
        value("the names", "lamp", 1);
        value("the names", "asked", 1);
        value("the names", "mine", 30);
        Boundary.at(8, "the names at most").given(x -> x.neighbour(0, 9)).given(x -> x.set(0, 0, 999))
            .given(x -> x.set(3, 0, 999)).given(x -> x.set(4, 0, 999))
            .given(x -> Boundary.rule(x, "throws (full=1998)+(night=999)*2+(mine=999)*4+(number=9)*8;comes 1;pays 1;"))
            .due(15, x -> x.told(0, 11));
        Boundary.at(8, "the names at least").given(x -> x.neighbour(0, 0))
            .given(x -> Boundary.rule(x, "throws full+night+mine+number+lamp+asked;comes 1;pays 1;")).due(0, x -> x.told(0, 11));
    }

    private static void force() {
        for (int text : new int[] {-1, 2, 5, 6, MIN, MAX}) {
            Boundary.at(9, "no such TEXT: " + text).furnished().still(BAD, x -> x.force(text));
        }
        Boundary.at(9, "no TEXT but 0").still(BAD, x -> x.force(1));
        Boundary.at(9, "TEXT 0 while it is THE RULE").still(0, x -> x.force(0));
        Boundary.at(9, "TEXT 0 again").furnished().due(1, x -> x.force(0)).due(0, x -> x.count(5)).due(9, x -> x.told(3, 11) / 2)
            .due(0, x -> x.force(1)).due(1, x -> x.count(5));
        Boundary.at(9, "the last of six").given(x -> x.neighbour(0, 0)).given(x -> texts(x, 5)).due(0, x -> x.force(5))
            .due(4, x -> x.told(0, 11)).still(BAD, x -> x.force(6)).due(5, x -> x.force(1))
            .due(0, x -> x.told(0, 11));
        Boundary.at(9, "a TEXT that was a FAULT").given(x -> Boundary.read(x, "throws 1;")).still(BAD, x -> x.force(1));
    }

    public static void main(String[] args) {
        feed();
        endsTooEarly();
        goesOnTooLong();
        bytes();
        words();
        numbers();
        tokensThatCantStandThere();
        open();
        closed();
        longest();
        behindOthers();
        howMany();
        wrapping();
        truth();
        bounds();
        force();
        Boundary.end();
    }
}
