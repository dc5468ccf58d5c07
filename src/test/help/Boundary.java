import java.util.ArrayList;
import java.util.List;

/** A boundary case of the document: calls on an object of its own, each with the answer that is due. */
final class Boundary {
    static final int MIN = Integer.MIN_VALUE, MAX = Integer.MAX_VALUE;
    static final int NONE = -1, BAD = -2, STATE = -3, FULL = -4, NO_SUCH = -1000;
    static final int NOTHING_THERE = -11, OUTSIDE = -12, OTHER_SORT = -13, BELOW_0 = -14;
    static final long NO = -4611686018427387904L;

    private static int cases = 0;
    private static int answers = 0;
    private static int wrong = 0;

    /** A call whose answer is asked. */
    interface Call {
        long on(SkipOfEightYards x);
    }

    private final String name;
    private final List<Call> calls = new ArrayList<>();
    private final SkipOfEightYards object = new SkipOfEightYards();

    private Boundary(String name) {
        this.name = name;
    }

    /** A case of a promise, on a new object; says what the document says there. */
    static Boundary at(int promise, String says) {
        cases++;
        return new Boundary("promise " + promise + ", " + says);
    }

    /** What is called ahead of the case; what it answers is not asked. */
    Boundary given(Call call) {
        calls.add(call);
        call.on(object);
        return this;
    }

    /** Ahead of the case there is something of all kinds, so that a refused call could change much. */
    Boundary furnished() {
        return given(x -> furnish(x));
    }

    Boundary due(long want, Call call) {
        calls.add(call);
        check(want, call.on(object));
        return this;
    }

    /** The answer is due, and all stays as it was: so it is with a refusal, and with what goes in thought. */
    Boundary still(long want, Call call) {
        SkipOfEightYards called = again();
        check(want, call.on(called));
        String now = new Sight(called).all();
        String before = new Sight(again()).all();
        answers++;
        if (!now.equals(before)) fail("the call changed\n  " + before + " to\n  " + now);
        return due(want, call);
    }

    private SkipOfEightYards again() {
        SkipOfEightYards x = new SkipOfEightYards();
        for (Call call : calls) call.on(x);
        return x;
    }

    private void check(long want, long got) {
        answers++;
        if (got != want) fail("call " + (calls.size() + 1) + " answered " + got + ", due is " + want);
    }

    private void fail(String what) {
        wrong++;
        System.out.println(name + ": " + what);
    }

    /** Tells how it went; ends with exit code 1 if one case does not hold. */
    static void end() {
        System.out.println(cases + " boundary cases, " + answers + " answers asked, " + wrong + " not as due");
        if (wrong != 0 || cases == 0) System.exit(1);
    }

    static int feedAll(SkipOfEightYards x, String text) {
        int size = 0;
        for (int i = 0; i < text.length(); i++) size = x.feed(text.charAt(i));
        return size;
    }

    static int read(SkipOfEightYards x, String text) {
        feedAll(x, text);
        return x.text();
    }

    static int rule(SkipOfEightYards x, String text) {
        return x.force(read(x, text));
    }

    static int row(SkipOfEightYards x, int sheet, int sort, int... items) {
        x.sheet(sheet, sort, items.length);
        for (int i = 0; i < items.length; i++) x.cell(sheet, i, items[i]);
        return items.length;
    }

    static int neighbours(SkipOfEightYards x, int... kinds) {
        for (int kind : kinds) x.neighbour(kind, 4);
        return kinds.length;
    }

    static int things(SkipOfEightYards x, int... bulks) {
        for (int bulk : bulks) x.thing(bulk, 0);
        return bulks.length;
    }

    /** An image, then other things and neighbours, a text, half a text on the tape, three sheets; sheet 3 is missing. */
    private static int furnish(SkipOfEightYards x) {
        x.neighbour(5, 4);
        x.neighbour(4, 6);
        x.set(7, 1, 1);
        x.thing(20, 9);
        x.set(0, 0, 2);
        x.set(4, 0, 3);
        x.image();
        x.neighbour(3, 8);
        x.neighbour(1, 2);
        x.set(7, 3, 1);
        x.thing(30, 5);
        x.thing(9, 0);
        x.load(1);
        x.set(0, 0, 7);
        x.set(1, 0, 300);
        x.set(2, 0, 1);
        x.set(4, 0, 11);
        rule(x, "throws number+night;comes lamp;pays 3;");
        feedAll(x, "throws 5;comes 1;pays ");
        row(x, 0, 0, 5, 4, 3, 2);
        row(x, 1, 1, 1, 9, 2, 8, 3, 7);
        return row(x, 2, 2, 7, 7, 7);
    }

    /** All that can be asked of an object, which is used up by that. */
    private static final class Sight {
        private static final int SCRATCH = 3, ITEMS = 6;
        private final SkipOfEightYards x;
        private final StringBuilder seen = new StringBuilder();

        Sight(SkipOfEightYards x) {
            this.x = x;
        }

        String all() {
            skip();
            texts();
            tape();
            sheets();
            see("back", x.back());
            skip();
            return seen.toString();
        }

        private long see(String what, long answer) {
            seen.append(what).append(' ').append(answer).append(", ");
            return answer;
        }

        private void skip() {
            for (int what = 0; what < 6; what++) see("count" + what, x.count(what));
            for (int what = 0; what < 5; what++) see("told" + what, x.told(0, what));
            for (int thing = 0; thing < x.count(1); thing++) {
                for (int what : new int[] {5, 8, 9}) see("thing" + thing + "." + what, x.told(thing, what));
            }
            for (int one = 0; one < x.count(0); one++) {
                for (int what : new int[] {6, 7, 10, 11, 13}) see("one" + one + "." + what, x.told(one, what));
            }
        }

        private void texts() {
            int rule = x.count(5);
            for (int text = 0; text < x.count(3); text++) {
                x.force(text);
                for (int one = 0; one < x.count(0); one++) see("throws" + one, x.told(one, 11));
                see("comes", x.told(3, 13));
                see("pays", x.pays(3, 7));
            }
            x.force(rule);
        }

        private void tape() {
            feedAll(x, "2;");
            see("text", x.text());
            see("tape", x.count(4));
            see("force", x.force(2));
            see("pays", x.pays(3, 7));
        }

        /** The last sheet first: it serves for reading the others' items one by one. */
        private void sheets() {
            int ghost = x.count(0) < 5 ? x.neighbour(5, 0) : 0;
            for (int sheet = SCRATCH; sheet >= 0; sheet--) {
                int sort = sortOf(sheet);
                int size = 0;
                while (size <= 40 && x.copy(sheet, size, sheet, size, 1) == 1) size++;
                see("sort" + sheet, sort);
                see("size" + sheet, size);
                for (int i = 0; i < Math.min(size, ITEMS) && sheet != SCRATCH; i++) item(sheet, sort, i, ghost);
            }
        }

        private int sortOf(int sheet) {
            for (int sort = 0; sort < 3; sort++) {
                if (x.street(sheet, sort, 0, 0) == 0) return sort;
            }
            return NONE;
        }

        private void item(int sheet, int sort, int i, int ghost) {
            x.sheet(SCRATCH, sort, 1);
            x.copy(sheet, i, SCRATCH, 0, 1);
            see("item" + sheet + "." + i, x.tells(SCRATCH, ghost, 2));
        }
    }
}
