import java.util.ArrayList;
import java.util.List;
import java.util.Random;

/** Compares the class with a second, plain reading of the document over many runs of drawn calls. */
public final class ModelTest {
    private static final int RUNS = 600, CALLS = 512;
    private static final long NO = -4611686018427387904L;
    private static final int[] ODD = {-1, -2, 0, 1, 2, 3, 4, 5, 6, 7, 8, 9, 10, 20, 21, 30, 31, 40, 41, 99, 100, 255, 256,
        998, 999, 1000, 1 << 30, (1 << 30) - 1, Integer.MAX_VALUE, Integer.MIN_VALUE};

    private static final class Fault extends Exception {
        private static final long serialVersionUID = 1;
        final int place;

        Fault(int place) {
            this.place = place;
        }
    }

    private interface Expression {
        int of(World w, Person p);
    }

    private static final class Token {
        final String word;
        final int place;
        final boolean sound;

        Token(String word, int place, boolean sound) {
            this.word = word;
            this.place = place;
            this.sound = sound;
        }
    }

    /** The grammar, a function for each of its lines; open is counted up and down. */
    private static final class Grammar {
        final List<Token> tokens = new ArrayList<>();
        int next = 0;
        int open = 0;

        Grammar(String tape) {
            int i = 0;
            while (i < tape.length()) {
                char c = tape.charAt(i);
                int end = i + 1;
                if (c == ' ' || c == '\n') {
                    i++;
                    continue;
                }
                boolean sound = "();+-*<=".indexOf(c) >= 0;
                if (c >= 'a' && c <= 'z') {
                    while (end < tape.length() && tape.charAt(end) >= 'a' && tape.charAt(end) <= 'z') end++;
                    sound = tape.substring(i, end).matches("throws|comes|pays|or|and|not|full|number|night|lamp|asked|mine");
                } else if (c >= '0' && c <= '9') {
                    while (end < tape.length() && tape.charAt(end) >= '0' && tape.charAt(end) <= '9') end++;
                    sound = end - i <= 4;
                }
                tokens.add(new Token(tape.substring(i, end), i, sound));
                i = end;
            }
            tokens.add(new Token("", tape.length(), true));
        }

        String peek() throws Fault {
            Token t = tokens.get(next);
            if (!t.sound) throw new Fault(t.place);
            return t.word;
        }

        void must(String word) throws Fault {
            if (!peek().equals(word)) throw new Fault(tokens.get(next).place);
            next++;
        }

        void openOne() throws Fault {
            if (open == 5) throw new Fault(tokens.get(next).place);
            open++;
            next++;
        }

        Expression[] text() throws Fault {
            Expression[] parts = new Expression[3];
            String[] keys = {"throws", "comes", "pays"};
            for (int i = 0; i < 3; i++) {
                must(keys[i]);
                parts[i] = e();
                must(";");
            }
            must("");
            return parts;
        }

        Expression e() throws Fault {
            Expression all = and();
            while (peek().equals("or")) {
                next++;
                Expression a = all, b = and();
                all = (w, p) -> a.of(w, p) != 0 | b.of(w, p) != 0 ? 1 : 0;
            }
            return all;
        }

        Expression and() throws Fault {
            Expression all = not();
            while (peek().equals("and")) {
                next++;
                Expression a = all, b = not();
                all = (w, p) -> a.of(w, p) != 0 & b.of(w, p) != 0 ? 1 : 0;
            }
            return all;
        }

        Expression not() throws Fault {
            if (peek().equals("not")) {
                openOne();
                Expression a = not();
                open--;
                return (w, p) -> a.of(w, p) == 0 ? 1 : 0;
            }
            Expression a = sum();
            if (peek().equals("<")) {
                next++;
                Expression b = sum();
                return (w, p) -> a.of(w, p) < b.of(w, p) ? 1 : 0;
            }
            if (peek().equals("=")) {
                next++;
                Expression b = sum();
                return (w, p) -> a.of(w, p) == b.of(w, p) ? 1 : 0;
            }
            return a;
        }

        Expression sum() throws Fault {
            Expression all = term();
            while (peek().equals("+") || peek().equals("-")) {
                int sign = peek().equals("+") ? 1 : -1;
                next++;
                Expression a = all, b = term();
                all = (w, p) -> a.of(w, p) + sign * b.of(w, p);
            }
            return all;
        }

        Expression term() throws Fault {
            Expression all = one();
            while (peek().equals("*")) {
                next++;
                Expression a = all, b = one();
                all = (w, p) -> a.of(w, p) * b.of(w, p);
            }
            return all;
        }

        Expression one() throws Fault {
            String word = peek();
            if (word.equals("(")) {
                openOne();
                Expression a = e();
                must(")");
                open--;
                return a;
            }
            if (word.equals("-")) {
                openOne();
                Expression a = one();
                open--;
                return (w, p) -> -a.of(w, p);
            }
            if (!word.matches("[0-9]+|full|number|night|lamp|asked|mine")) throw new Fault(tokens.get(next).place);
            next++;
            switch (word) {
                case "full": return (w, p) -> w.full();
                case "number": return (w, p) -> p.number;
                case "night": return (w, p) -> w.v[0];
                case "lamp": return (w, p) -> w.v[2];
                case "asked": return (w, p) -> p.asked;
                case "mine": return (w, p) -> w.v[3];
                default:
                    int number = Integer.parseInt(word);
                    return (w, p) -> number;
            }
        }
    }

    /** A neighbour; one's kind is looked at by asking the kinds above it. */
    private static final class Person {
        int kind;
        int number;
        int asked;

        Person with(int kind, int number, int asked) {
            this.kind = kind;
            this.number = number;
            this.asked = asked;
            return this;
        }

        long asNeighbourThrows(World w, boolean covered) {
            return covered ? 0 : w.text(this, 0);
        }

        long asAskerThrows(World w, boolean covered) {
            return (asked == 1 ? 2 : 1) * asNeighbourThrows(w, covered);
        }

        long asThiefThrows(World w) {
            return -w.text(this, 0);
        }

        int throwing(World w, boolean covered) {
            long v = kind == 0 ? asNeighbourThrows(w, covered) : kind == 1 ? asAskerThrows(w, covered) : kind == 2 ? asThiefThrows(w)
                : kind == 3 ? Math.min(asAskerThrows(w, covered), number) : kind == 5 ? number
                : w.v[0] % 2 == 0 ? 2 * asThiefThrows(w) : 0;
            return (int) Math.max(-99, Math.min(99, v));
        }

        boolean comes(World w) {
            boolean yes = w.text(this, 1) != 0;
            boolean thief = yes && w.v[2] == 0;
            return kind == 0 ? yes : kind == 1 ? yes && asked == 1 : kind == 2 ? thief : kind == 3 ? true
                : kind == 4 ? thief || w.full() > 50 : w.v[0] % 3 == 0;
        }

        int pays(World w, int much) {
            int asker = asked == 1 ? w.text(this, 2) * much : 0;
            return kind <= 1 ? asker : kind == 3 ? asker / 2 : kind == 4 ? number : 0;
        }
    }

    private static final class World {
        /** NIGHT, SIZE, LAMP, MINE, THEIRS. */
        int[] v = {0, 100, 0, 0, 0};
        List<int[]> things = new ArrayList<>();
        List<Person> people = new ArrayList<>();
        List<Expression[]> texts;
        int rule;
        int paid;

        World(List<Expression[]> texts) {
            this.texts = texts;
        }

        World thought() {
            World w = new World(texts);
            w.v = v.clone();
            for (int[] t : things) w.things.add(t.clone());
            for (Person p : people) w.people.add(new Person().with(p.kind, p.number, p.asked));
            w.rule = rule;
            return w;
        }

        int text(Person p, int part) {
            int e = texts.get(rule)[part].of(this, p);
            return part == 0 ? Math.max(-99, Math.min(99, e)) : part == 2 ? Math.max(0, Math.min(9, e)) : e;
        }

        int full() {
            return v[3] + v[4];
        }

        int room() {
            return full() > v[1] ? 0 : v[1] - full();
        }

        int left() {
            int sum = 0;
            for (int[] t : things) sum += t[2] == 1 ? 0 : t[0];
            return sum;
        }

        int inBits() {
            int bits = 0;
            for (int i = 0; i < things.size(); i++) bits += things.get(i)[2] << i;
            return bits;
        }

        World day(boolean covered) {
            for (int[] t : things) {
                if (t[2] == 0 && t[1] <= v[0] && t[0] <= room()) {
                    t[2] = 1;
                    v[3] += t[0];
                }
            }
            for (Person p : people) {
                if (p.comes(this)) {
                    int throwing = p.throwing(this, covered);
                    int in = throwing > 0 ? Math.min(throwing, room()) : 0;
                    paid += p.pays(this, in);
                    if (throwing > 0) v[4] += in;
                    else v[4] = Math.max(0, v[4] + throwing);
                }
            }
            v[0]++;
            return this;
        }

        World days(int n, int covered) {
            for (int i = 0; i < n; i++) day((covered & 1 << i) != 0);
            return this;
        }
    }

    private static final class Model {
        final List<Expression[]> texts = new ArrayList<>();
        final StringBuilder tape = new StringBuilder();
        final Object[] sheets = new Object[4];
        World now;
        World kept;

        Model() throws Fault {
            texts.add(new Grammar("throws 9 ; comes 1 ; pays 1 ;").text());
            now = new World(texts);
        }

        boolean thing(int i) {
            return i >= 0 && i < now.things.size();
        }

        boolean person(int i) {
            return i >= 0 && i < now.people.size();
        }

        static boolean in(int v, int least, int most) {
            return least <= v && v <= most;
        }

        int set(int what, int of, int v) {
            int was = what > 7 ? -1000 : told(of, what);
            int[] most = {999, 999, 1, 999, 999, 99, 9, 1};
            if (was == -1000 || v < 0 || v > most[what]) return -1000;
            if (what < 5) now.v[what] = v;
            else if (what == 5) now.things.get(of)[1] = v;
            else if (what == 6) now.people.get(of).number = v;
            else now.people.get(of).asked = v;
            return was;
        }

        int told(int of, int what) {
            if (what >= 0 && what < 5) return now.v[what];
            if (what == 5 || what == 8 || what == 9) return thing(of) ? now.things.get(of)[what == 5 ? 1 : what == 8 ? 0 : 2] : -1000;
            if (what == 14) return now.full();
            if (what == 15) return now.room();
            if (what == 16) return now.left();
            if (what < 0 || what > 16 || !person(of)) return -1000;
            Person p = now.people.get(of);
            return what == 6 ? p.number : what == 7 ? p.asked : what == 10 ? p.kind : what == 11 ? p.throwing(now, false)
                : what == 12 ? p.throwing(now, true) : p.comes(now) ? 1 : 0;
        }

        int neighbour(int kind, int number) {
            if (!in(kind, 0, 5) || !in(number, 0, 9)) return -2;
            if (now.people.size() == 5) return -4;
            now.people.add(new Person().with(kind, number, 0));
            return now.people.size() - 1;
        }

        int thing(int bulk, int ready) {
            if (!in(bulk, 1, 99) || !in(ready, 0, 99)) return -2;
            if (now.things.size() == 8) return -4;
            now.things.add(new int[] {bulk, ready, 0});
            return now.things.size() - 1;
        }

        int text() {
            if (texts.size() == 6) return -4;
            String t = tape.toString();
            tape.setLength(0);
            try {
                texts.add(new Grammar(t).text());
                return texts.size() - 1;
            } catch (Fault f) {
                return -100 - f.place;
            }
        }

        int cover(int n, int what) {
            if (!in(n, 0, 7) || !in(what, 0, 1)) return -2;
            int best = 0, least = Integer.MAX_VALUE, fewest = 0;
            for (int bits = 0; bits < 1 << n; bits++) {
                int left = now.thought().days(n, bits).left();
                if (left < least || left == least && Integer.bitCount(bits) < fewest) {
                    best = bits;
                    least = left;
                    fewest = Integer.bitCount(bits);
                }
            }
            return what == 0 ? best : least;
        }

        int ask(int n, int what) {
            if (!in(n, 0, 7) || !in(what, 0, 2)) return -2;
            int best = 0, least = Integer.MAX_VALUE, most = 0;
            for (int bits = 0; bits < 1 << now.people.size(); bits++) {
                World w = now.thought();
                for (int i = 0; i < w.people.size(); i++) w.people.get(i).asked = bits >> i & 1;
                w.days(n, 0);
                if (w.left() < least || w.left() == least && w.paid > most) {
                    best = bits;
                    least = w.left();
                    most = w.paid;
                }
            }
            return what == 0 ? best : what == 1 ? least : most;
        }

        int best(int what) {
            int[] answer = {0, 0, 0, Integer.MAX_VALUE, -1, 0};
            for (int bits = 0; bits < 1 << now.things.size(); bits++) {
                int sum = 0;
                for (int i = 0; i < now.things.size(); i++) sum += (bits >> i & 1) * now.things.get(i)[0];
                if ((bits & now.inBits()) == 0 && sum <= now.room() && sum > answer[1]) {
                    answer[0] = bits;
                    answer[1] = sum;
                }
            }
            for (int v = 0; v < 8; v++) {
                World w = now.thought();
                w.v[0] += v;
                int left = w.days(7, 0).left();
                if (left < answer[3]) {
                    answer[2] = v;
                    answer[3] = left;
                }
            }
            for (int i = 0; i < now.people.size(); i++) {
                int much = now.people.get(i).throwing(now, false);
                if (i == 0 || much > answer[5]) {
                    answer[4] = i;
                    answer[5] = much;
                }
            }
            return in(what, 0, 5) ? answer[what] : -1000;
        }

        static long lowest(long a, long b, int part) {
            long g = java.math.BigInteger.valueOf(a).gcd(java.math.BigInteger.valueOf(b)).longValue();
            return part == 0 ? a / g : b / g;
        }

        int size(Object sheet) {
            return java.lang.reflect.Array.getLength(sheet);
        }

        int item(Object sheet, int i) {
            return java.lang.reflect.Array.getInt(sheet, i);
        }

        int otherwise(Object sheet, World w, int one) {
            for (int i = 0; i < size(sheet); i++) {
                int throwing = w.people.get(one).throwing(w, false);
                w.v[0]++;
                if (throwing != item(sheet, i)) return i;
            }
            return -1;
        }

        int tells(int s, int one, int what) {
            if (!in(s, 0, 3) || !person(one) || !in(what, 0, 7)) return -2;
            Object sheet = sheets[s];
            if (sheet == null) return -11;
            if (size(sheet) > 20) return -2;
            if (what == 0) return otherwise(sheet, now.thought(), one);
            int[] many = {0, 6, 10, 100, 100, texts.size(), now.people.size(), 2};
            int bits = 0, count = 0, least = -1;
            for (int v = 0; v < many[what]; v++) {
                World w = now.thought();
                Person p = w.people.get(one);
                if (what == 1) p.kind = v;
                if (what == 2) p.number = v;
                if (what == 3 || what == 4) w.v[3] = v;
                if (what == 5) w.rule = v;
                if (what == 7) p.asked = v;
                if (otherwise(sheet, w, what == 6 ? v : one) == -1) {
                    if (count == 0) least = v;
                    count++;
                    bits |= 1 << v;
                }
            }
            return what == 3 ? count : what == 4 ? least : bits;
        }

        int film(int s, int one, int n) {
            if (!in(s, 0, 3) || !person(one) || !in(n, 0, 20)) return -2;
            byte[] row = new byte[n];
            World w = now.thought();
            for (int i = 0; i < n; i++) {
                row[i] = (byte) w.people.get(one).throwing(w, false);
                w.v[0]++;
            }
            sheets[s] = row;
            return n;
        }

        int drawn(int seed, int n) {
            World w = now.thought();
            int z = seed;
            for (int i = 0; i < n; i++) {
                z = z * 1103515245 + 12345;
                w.day((z >>> 9) % 2 == 1);
            }
            return w.left();
        }

        int sheet(int s, int sort, int n) {
            if (!in(s, 0, 3) || !in(sort, -1, 2)) return -2;
            if (sort >= 0 && n > 40) return -2;
            if (sort >= 0 && n < 0) return -14;
            sheets[s] = sort == 0 ? new byte[n] : sort == 1 ? new short[n] : sort == 2 ? new int[n] : null;
            return 1;
        }

        int cell(int s, int i, int v) {
            if (!in(s, 0, 3)) return -2;
            if (sheets[s] == null) return -11;
            if (!in(i, 0, size(sheets[s]) - 1)) return -12;
            if (sheets[s] instanceof byte[]) ((byte[]) sheets[s])[i] = (byte) v;
            else if (sheets[s] instanceof short[]) ((short[]) sheets[s])[i] = (short) v;
            else ((int[]) sheets[s])[i] = v;
            return 1;
        }

        int copy(int s, int i, int o, int j, int n) {
            if (!in(s, 0, 3) || !in(o, 0, 3)) return -2;
            if (sheets[s] == null || sheets[o] == null) return -11;
            if (sheets[s].getClass() != sheets[o].getClass()) return -13;
            if (n < 0 || i < 0 || j < 0 || (long) i + n > size(sheets[s]) || (long) j + n > size(sheets[o])) return -12;
            System.arraycopy(sheets[s], i, sheets[o], j, n);
            return n;
        }

        int street(int s, int sort, int from, int n) {
            if (!in(s, 0, 3) || !in(sort, 0, 2) || !in(n, 0, 5)) return -2;
            if (sheets[s] == null) return -11;
            if (sheets[s].getClass() != new Class<?>[] {byte[].class, short[].class, int[].class}[sort]) return -13;
            int came = 0;
            for (long at = from; at < (long) from + 2 * n; at += 2) {
                if (at < 0 || at + 1 >= size(sheets[s])) return -12;
                if (neighbour(item(sheets[s], (int) at), item(sheets[s], (int) at + 1)) >= 0) came++;
            }
            return came;
        }

        int taken(int one, int k) {
            if (!in(k, 0, 5)) return -2;
            if (!person(one)) return -11;
            Person p = now.people.get(one);
            boolean under = k == 0 || p.kind == k || k == 1 && p.kind == 3 || k == 2 && p.kind == 4;
            return under ? p.number : -13;
        }
    }

    private final Random random;
    private final SkipOfEightYards x = new SkipOfEightYards();
    private final Model m = new Model();
    private final StringBuilder log = new StringBuilder();
    private int calls = 0;
    private int wrong = 0;

    private ModelTest(int seed) throws Fault {
        random = new Random(seed);
    }

    private int below(int n) {
        return random.nextInt(n);
    }

    /** Mostly a number below n, at times an odd one. */
    private int number(int n) {
        return below(12) == 0 ? ODD[below(ODD.length)] : below(n);
    }

    private void same(String call, long got, long want) {
        calls++;
        log.append(call).append(" = ").append(got).append('\n');
        if (got != want) {
            wrong++;
            System.out.println(log + "-- due is " + want);
        }
    }

    private String expression(int depth) {
        String[] names = {"full", "number", "night", "lamp", "asked", "mine"};
        switch (below(depth > 2 ? 3 : 10)) {
            case 0: return names[below(6)];
            case 1: return "" + below(below(2) == 0 ? 10 : 100);
            case 2: return below(9) == 0 ? "" + below(12000) : names[below(6)];
            case 3: return "not " + expression(depth + 1);
            case 4: return "-" + expression(depth + 1);
            case 5: return "(" + expression(depth + 1) + ")";
            default:
                String[] signs = {"+", "-", "*", "<", "=", " or ", " and ", "+"};
                return expression(depth + 1) + signs[below(signs.length)] + expression(depth + 1);
        }
    }

    private String drawnText() {
        String text = below(8) == 0 ? "" : "throws " + expression(0) + ";comes " + expression(1) + ";pays " + expression(1) + ";";
        StringBuilder t = new StringBuilder(text);
        if (below(3) == 0) {
            for (int i = 0; i < 1 + below(3); i++) {
                String alphabet = "();+-*<= \n09afn$\u00ff";
                int at = below(t.length() + 1);
                if (below(2) == 0 || at == t.length()) t.insert(at, alphabet.charAt(below(alphabet.length())));
                else t.deleteCharAt(at);
            }
        }
        return t.toString();
    }

    private int feedOne(int letter) {
        if (letter < 0 || letter > 255) return -2;
        if (m.tape.length() == 160) return -4;
        m.tape.append((char) letter);
        return m.tape.length();
    }

    private void write() {
        String text = drawnText();
        if (text.length() > 130 && below(3) > 0) return;
        for (int i = 0; i < text.length() && calls < CALLS - 1; i++) {
            same("feed(" + (int) text.charAt(i) + ")", x.feed(text.charAt(i)), feedOne(text.charAt(i)));
        }
        int number = m.text();
        same("text() \"" + text + "\"", x.text(), number);
        if (number > 0) {
            same("force(" + number + ")", x.force(number), m.now.rule);
            m.now.rule = number;
        }
    }

    private void skipCalls() {
        int a = number(9), b = number(10), c = number(below(2) == 0 ? 10 : 1000);
        switch (below(9)) {
            case 0: case 1: same("set(" + a + ", " + b + ", " + c + ")", x.set(a, b % 6, c), m.set(a, b % 6, c)); break;
            case 2: b = number(5); same("set(7, " + b + ", 1)", x.set(7, b, 1), m.set(7, b, 1)); break;
            case 3: c = number(60); a = number(12); same("thing(" + c + ", " + a + ")", x.thing(c, a), m.thing(c, a)); break;
            case 4: a = number(6); same("neighbour(" + a + ", " + b + ")", x.neighbour(a, b), m.neighbour(a, b)); break;
            case 5: a = number(5); c = number(17); same("told(" + a + ", " + c + ")", x.told(a, c), m.told(a, c)); break;
            case 6: a = number(5); c = number(100);
                same("pays(" + a + ", " + c + ")", x.pays(a, c), m.person(a) && Model.in(c, 0, 99) ? m.now.people.get(a).pays(m.now, c) : -1000);
                break;
            case 7: a = number(3); same("night(" + a + ")", x.night(a), nightOf(a)); break;
            default: a = number(9); same("load(" + a + ")", x.load(a), loadOf(a)); break;
        }
    }

    private int nightOf(int covered) {
        if (covered != 0 && covered != 1) return -2;
        if (m.now.v[0] == 999) return -3;
        m.now.paid = 0;
        return m.now.day(covered == 1).paid;
    }

    private int loadOf(int thing) {
        if (!m.thing(thing)) return -2;
        int[] t = m.now.things.get(thing);
        if (t[2] == 1 || t[0] > m.now.room()) return -3;
        t[2] = 1;
        m.now.v[3] += t[0];
        return m.now.room();
    }

    private void bestCalls() {
        int n = number(8), what = number(7);
        switch (below(6)) {
            case 0: case 1:
                int many = number(31), covered = below(2) == 0 ? number(1 << 30) : below(64);
                same("run(" + many + ", " + covered + ", " + what + ")", x.run(many, covered, what), runOf(many, covered, what));
                break;
            case 2: what = number(2); same("cover(" + n + ", " + what + ")", x.cover(n, what), m.cover(n, what)); break;
            case 3: what = number(3); same("ask(" + n + ", " + what + ")", x.ask(n, what), m.ask(n, what)); break;
            case 4: same("best(" + what + ")", x.best(what), m.best(what)); break;
            default:
                what = number(2);
                same("share(" + what + ")", x.share(what), m.now.full() == 0 || !Model.in(what, 0, 1) ? NO : Model.lowest(m.now.v[3], m.now.full(), what));
                break;
        }
    }

    private int runOf(int n, int covered, int what) {
        if (!Model.in(n, 0, 30) || !Model.in(covered, 0, (1 << 30) - 1) || !Model.in(what, 0, 5)) return -2;
        World w = m.now.thought().days(n, covered);
        return new int[] {w.full(), w.v[3], w.v[4], w.paid, w.left(), w.inBits()}[what];
    }

    private void toldCalls() {
        int s = number(4), one = number(5), n = number(10), what = number(8);
        switch (below(7)) {
            case 0: case 1: case 2:
                if (below(2) == 0) same("film(" + s + ", " + one + ", " + n + ")", x.film(s, one, n), m.film(s, one, n));
                if (below(2) == 0) one = number(5);
                same("tells(" + s + ", " + one + ", " + what + ")", x.tells(s, one, what), m.tells(s, one, what));
                break;
            case 3:
                n = number(31);
                int seed = below(2) == 0 ? random.nextInt() : number(10);
                same("drawn(" + seed + ", " + n + ")", x.drawn(seed, n), Model.in(n, 0, 30) ? m.drawn(seed, n) : -2);
                break;
            case 4: chanceCall(); break;
            case 5:
                if (below(2) == 0) {
                    m.kept = m.now.thought();
                    same("image()", x.image(), m.now.people.size());
                } else {
                    if (m.kept != null) m.now = m.kept.thought();
                    same("back()", x.back(), m.kept == null ? -3 : m.now.people.size());
                }
                break;
            default:
                what = number(6);
                int[] counts = {m.now.people.size(), m.now.things.size(), m.now.v[0], m.texts.size(), m.tape.length(), m.now.rule};
                same("count(" + what + ")", x.count(what), Model.in(what, 0, 5) ? counts[what] : -2);
                break;
        }
    }

    private void chanceCall() {
        int seed = below(2) == 0 ? random.nextInt() : number(10), n = 1 + number(20), k = number(200), part = number(2);
        long want = NO;
        if (Model.in(n, 1, 20) && Model.in(k, 0, 999) && Model.in(part, 0, 1)) {
            int many = 0;
            for (int i = 0; i < n; i++) many += m.drawn(seed + i, 5) <= k ? 1 : 0;
            want = Model.lowest(many, n, part);
        }
        same("chance(" + seed + ", " + n + ", " + k + ", " + part + ")", x.chance(seed, n, k, part), want);
    }

    private void hostCalls() {
        int s = number(4), i = number(8), o = number(4), j = number(8), n = number(8), sort = number(3);
        switch (below(7)) {
            case 0:
                if (below(4) == 0) n = number(41);
                same("sheet(" + s + ", " + sort + ", " + n + ")", x.sheet(s, sort, n), m.sheet(s, sort, n));
                break;
            case 1: case 2:
                int v = below(3) == 0 ? random.nextInt() : below(10);
                same("cell(" + s + ", " + i + ", " + v + ")", x.cell(s, i, v), m.cell(s, i, v));
                break;
            case 3:
                n = number(5);
                same("copy(" + s + ", " + i + ", " + o + ", " + j + ", " + n + ")", x.copy(s, i, o, j, n), m.copy(s, i, o, j, n));
                break;
            case 4:
                n = number(4);
                same("street(" + s + ", " + sort + ", " + i + ", " + n + ")", x.street(s, sort, i, n), m.street(s, sort, i, n));
                break;
            case 5:
                i = number(5);
                o = number(6);
                same("taken(" + i + ", " + o + ")", x.taken(i, o), m.taken(i, o));
                break;
            default:
                i = number(6);
                same("force(" + i + ")", x.force(i), Model.in(i, 0, m.texts.size() - 1) ? m.now.rule : -2);
                if (Model.in(i, 0, m.texts.size() - 1)) m.now.rule = i;
                break;
        }
    }

    private int play() {
        while (calls < CALLS && wrong == 0) {
            switch (below(24)) {
                case 0: write(); break;
                case 1: case 2: case 3: case 4: case 5: case 6: case 7: case 8: skipCalls(); break;
                case 9: case 10: case 11: case 12: bestCalls(); break;
                case 13: case 14: case 15: case 16: case 17: toldCalls(); break;
                default: hostCalls(); break;
            }
        }
        return wrong;
    }

    public static void main(String[] args) throws Fault {
        int wrong = 0;
        long calls = 0;
        for (int seed = 0; seed < RUNS && wrong == 0; seed++) {
            ModelTest test = new ModelTest(seed);
            wrong += test.play();
            calls += test.calls;
        }
        System.out.println(calls + " calls compared, " + wrong + " not alike");
        if (wrong != 0) System.exit(1);
    }
}
