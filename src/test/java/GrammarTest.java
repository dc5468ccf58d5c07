import java.util.ArrayDeque;
import java.util.ArrayList;
import java.util.Arrays;
import java.util.Deque;
import java.util.List;
import java.util.Map;
import java.util.Random;
import java.util.Set;

/**
 * Compares text() (promise 8, term 1) with a reader that has no function for each line of the grammar: it goes from token to
 * token, keeps what is open on a stack, and works out an E by the ranks of its signs.
 */
public final class GrammarTest {
    private static final int TEXTS = 120_000, MOST_BYTES = 160, MOST_OPEN = 5;
    private static final String[] KEYS = {"throws", "comes", "pays"};
    private static final String[] NAMES = {"full", "number", "night", "lamp", "asked", "mine"};
    private static final Set<String> NAMED = Set.of(NAMES);
    private static final String[] NUMBERS = {"0", "1", "2", "7", "12", "0003", "9999"};
    private static final String[] JOINS = {"or", "and", "+", "-", "*", "<", "="};
    private static final String[] STRAY = {"full", "mine", "5", "12345", "00000", "throws", "comes", "pays", "or", "and", "not",
        "(", ")", ";", "+", "-", "*", "<", "=", "foo", "ors", "$", "A", "\t", "\u00ff"};

    private final Random random;
    private final List<String> tokens = new ArrayList<>();
    private final StringBuilder tape = new StringBuilder();
    /** Where each token begins; behind the last, the tape's size. */
    private int[] places;

    private GrammarTest(long seed) {
        random = new Random(seed);
    }

    private int below(int n) {
        return random.nextInt(n);
    }

    private String one(String[] of) {
        return of[below(of.length)];
    }

    // ---- drawn texts

    private void draw() {
        for (String key : KEYS) {
            tokens.add(key);
            drawExpression(0, true);
            tokens.add(";");
        }
        if (below(3) == 0) spoil();
        if (below(6) == 0) spoil();
    }

    private void drawExpression(int open, boolean notMay) {
        int parts = below(3) > 0 ? 1 : 2 + below(3);
        boolean may = notMay;
        for (int i = 0; i < parts; i++) {
            if (i > 0) {
                String join = one(JOINS);
                tokens.add(join);
                may = join.equals("or") || join.equals("and");
            }
            drawOne(open, may);
        }
    }

    /** At times one more is opened than there may be. */
    private void drawOne(int open, boolean notMay) {
        boolean may = open < MOST_OPEN || open == MOST_OPEN && below(6) == 0;
        int way = may ? below(10) : 9;
        if (way < 2) {
            tokens.add("-");
            drawOne(open + 1, false);
        } else if (way < 4 && notMay) {
            tokens.add("not");
            drawOne(open + 1, true);
        } else if (way < 7) {
            tokens.add("(");
            drawExpression(open + 1, true);
            tokens.add(")");
        } else {
            tokens.add(below(2) == 0 ? one(NAMES) : one(NUMBERS));
        }
    }

    private void spoil() {
        int at = below(tokens.size());
        switch (below(4)) {
            case 0: tokens.remove(at); break;
            case 1: tokens.set(at, one(STRAY)); break;
            case 2: tokens.add(at, one(STRAY)); break;
            default: tokens.subList(at + 1, tokens.size()).clear(); break;
        }
    }

    private void write() {
        places = new int[tokens.size() + 1];
        for (int i = 0; i < tokens.size(); i++) {
            if (i > 0 && grow(tokens.get(i - 1), tokens.get(i))) tape.append(blank());
            while (below(12) == 0) tape.append(blank());
            places[i] = tape.length();
            tape.append(tokens.get(i));
        }
        if (below(8) == 0) tape.append(blank());
        places[tokens.size()] = tape.length();
    }

    private char blank() {
        return below(2) == 0 ? ' ' : '\n';
    }

    /** Whether two tokens would be one, were no blank between them. */
    private static boolean grow(String a, String b) {
        return isWord(a) && isWord(b) || isNumber(a) && isNumber(b);
    }

    private static boolean isWord(String token) {
        return token.charAt(0) >= 'a' && token.charAt(0) <= 'z';
    }

    private static boolean isNumber(String token) {
        return token.charAt(0) >= '0' && token.charAt(0) <= '9';
    }

    // ---- which token can't stand there

    /** The first token that can't stand there, or how many there are if the text ends too early; -1 if it is sound. */
    private int fault() {
        int at = 0;
        for (String key : KEYS) {
            if (at == tokens.size() || !tokens.get(at).equals(key)) return at;
            at++;
            Part part = new Part();
            while (!part.ended) {
                if (at == tokens.size() || !part.takes(tokens.get(at))) return at;
                at++;
            }
        }
        return at == tokens.size() ? -1 : at;
    }

    /** An E and its semicolon, token by token. */
    private static final class Part {
        /** What is open: ( not - */
        private final Deque<String> open = new ArrayDeque<>();
        /** For each ( that is open: whether a < or = stood already in the NOT around it. */
        private final Deque<Boolean> compared = new ArrayDeque<>();
        private boolean comparedHere = false;
        private boolean wantsOne = true;
        private boolean notMay = true;
        private boolean ended = false;

        boolean takes(String token) {
            return wantsOne ? takesOne(token) : takesJoin(token);
        }

        private boolean takesOne(String token) {
            switch (token) {
                case "-":
                    notMay = false;
                    return opens(token);
                case "not":
                    return notMay && opens(token);
                case "(":
                    compared.push(comparedHere);
                    comparedHere = false;
                    notMay = true;
                    return opens(token);
                default:
                    wantsOne = false;
                    close("-");
                    return NAMED.contains(token) || isNumber(token) && token.length() <= 4;
            }
        }

        private boolean opens(String token) {
            if (open.size() == MOST_OPEN) return false;
            open.push(token);
            return true;
        }

        private void close(String token) {
            while (token.equals(open.peek())) open.pop();
        }

        private boolean takesJoin(String token) {
            switch (token) {
                case "+": case "-": case "*":
                    return wants(false);
                case "<": case "=":
                    boolean first = !comparedHere;
                    comparedHere = true;
                    return wants(false) && first;
                case "and": case "or":
                    close("not");
                    comparedHere = false;
                    return wants(true);
                case ")":
                    close("not");
                    if (!"(".equals(open.poll())) return false;
                    comparedHere = compared.pop();
                    close("-");
                    return true;
                case ";":
                    close("not");
                    ended = true;
                    return open.isEmpty();
                default:
                    return false;
            }
        }

        private boolean wants(boolean not) {
            wantsOne = true;
            notMay = not;
            return true;
        }
    }

    // ---- what a sound E comes to

    private static int rank(String sign) {
        List<List<String>> ranks = List.of(List.of("or"), List.of("and"), List.of("not"), List.of("<", "="), List.of("+", "-"),
            List.of("*"), List.of("negative"));
        for (int i = 0; i < ranks.size(); i++) {
            if (ranks.get(i).contains(sign)) return i;
        }
        return -1;
    }

    private static void join(Deque<Integer> values, String sign) {
        int b = values.pop();
        int a = sign.equals("not") || sign.equals("negative") ? 0 : values.pop();
        switch (sign) {
            case "or": values.push((a | b) != 0 ? 1 : 0); break;
            case "and": values.push(a == 0 ? 0 : b == 0 ? 0 : 1); break;
            case "not": values.push(b == 0 ? 1 : 0); break;
            case "<": values.push(a < b ? 1 : 0); break;
            case "=": values.push(a == b ? 1 : 0); break;
            case "+": values.push(a + b); break;
            case "*": values.push(a * b); break;
            default: values.push(a - b); break;
        }
    }

    private static int value(List<String> expression, Map<String, Integer> names) {
        Deque<Integer> values = new ArrayDeque<>();
        Deque<String> signs = new ArrayDeque<>();
        boolean wantsOne = true;
        for (String token : expression) {
            if (wantsOne && (token.equals("-") || token.equals("not") || token.equals("("))) {
                signs.push(token.equals("-") ? "negative" : token);
            } else if (wantsOne) {
                values.push(names.containsKey(token) ? names.get(token) : Integer.parseInt(token));
                wantsOne = false;
            } else {
                int least = token.equals(")") ? 0 : rank(token);
                while (!signs.isEmpty() && rank(signs.peek()) >= least) join(values, signs.pop());
                wantsOne = !token.equals(")");
                if (wantsOne) signs.push(token);
                else signs.pop();
            }
        }
        while (!signs.isEmpty()) join(values, signs.pop());
        return values.pop();
    }

    private List<String> expression(String key) {
        int from = tokens.indexOf(key) + 1;
        List<String> rest = tokens.subList(from, tokens.size());
        return rest.subList(0, rest.indexOf(";"));
    }

    // ---- the comparison

    private String values(SkipOfEightYards x) {
        int[] v = {below(60), below(60), below(10), below(30), below(2), below(2)};
        x.neighbour(0, v[2]);
        x.set(3, 0, v[0]);
        x.set(4, 0, v[1]);
        x.set(0, 0, v[3]);
        x.set(2, 0, v[4]);
        x.set(7, 0, v[5]);
        x.force(1);
        Map<String, Integer> names = Map.of("full", v[0] + v[1], "number", v[2], "night", v[3], "lamp", v[4], "asked", v[5], "mine", v[0]);
        int thrown = Math.max(-99, Math.min(99, value(expression("throws"), names)));
        int comes = value(expression("comes"), names) != 0 ? 1 : 0;
        int paid = v[5] * 7 * Math.max(0, Math.min(9, value(expression("pays"), names)));
        String due = thrown + ", " + comes + ", " + paid;
        String got = x.told(0, 11) + ", " + x.told(0, 13) + ", " + x.pays(0, 7);
        return got.equals(due) ? "" : "comes to " + got + ", due is " + due + ", with " + Arrays.toString(v);
    }

    /** What is not as due with a drawn text; nothing, if all is, or if the text is too long for the tape. */
    private String compare() {
        draw();
        write();
        if (tape.length() > MOST_BYTES) return "";
        SkipOfEightYards x = new SkipOfEightYards();
        for (int i = 0; i < tape.length(); i++) x.feed(tape.charAt(i));
        int fault = fault();
        int due = fault < 0 ? 1 : -100 - places[fault];
        int got = x.text();
        if (got != due) return "text() answered " + got + ", due is " + due;
        if (x.count(4) != 0 || x.count(3) != (fault < 0 ? 2 : 1)) return "the tape or the texts are not as due behind it";
        return fault < 0 ? values(x) : "";
    }

    public static void main(String[] args) {
        int wrong = 0;
        for (int seed = 0; seed < TEXTS; seed++) {
            GrammarTest test = new GrammarTest(seed);
            String otherwise = test.compare();
            if (otherwise.isEmpty()) continue;
            wrong++;
            if (wrong <= 10) System.out.println("\"" + test.tape + "\": " + otherwise);
        }
        System.out.println(TEXTS + " drawn texts, " + wrong + " not read alike");
        if (wrong != 0) System.exit(1);
    }
}
