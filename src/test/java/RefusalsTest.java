import java.util.ArrayList;
import java.util.List;
import java.util.function.Consumer;
import java.util.function.ToLongFunction;

/**
 * What a call that is refused leaves as it was, and what a call that only asks leaves: of two objects that are made
 * alike one gets that call too, and all that can be asked of them must be alike.
 */
public final class RefusalsTest {
    private static final Check CHECK = new Check("RefusalsTest");
    private static final int LEAST = Integer.MIN_VALUE;
    private static final int GREATEST = Integer.MAX_VALUE;
    private static final int[] NO_ELEMENTS = {-1, 6, LEAST, GREATEST};
    private static final int[] NO_WORDS = {-1, 1, 999, 1002, 2004, 3000, 7000, LEAST, GREATEST};
    private static final String FULL = State.fullAnd(x -> { }, true);
    private static final String NEW = State.newAnd(x -> { });

    public static void main(String[] args) {
        theStatesDiffer();
        tapes();
        texts();
        elementTexts();
        elementCalls();
        products();
        slots();
        questionsWithoutAnswer();
        questions();
        CHECK.end();
    }

    private static void refused(String call, ToLongFunction<WordAlgebra> made, long want) {
        CHECK.due(call, made.applyAsLong(State.full()), want);
        CHECK.due("all behind " + call, State.fullAnd(made::applyAsLong, true).equals(FULL), true);
    }

    private static void refusedOfNew(String call, ToLongFunction<WordAlgebra> made, long want) {
        CHECK.due("new: " + call, made.applyAsLong(new WordAlgebra()), want);
        CHECK.due("new: all behind " + call, State.newAnd(made::applyAsLong).equals(NEW), true);
    }

    private static long of(boolean answer) {
        return answer ? 1 : 0;
    }

    /** Else the comparison would be worth nothing: each of these calls must be seen by it. */
    private static void theStatesDiffer() {
        List<Consumer<WordAlgebra>> changes = new ArrayList<>();
        for (int e = 0; e < 6; e++) {
            int to = e;
            changes.add(x -> x.put(to, 2001, x.counts(to, 2001) + 1));
        }
        changes.add(x -> x.back(1));
        changes.add(x -> x.feed(0x20202020, 0x20202020, 0x20202020, 0x20202020, 0x20202020));
        changes.add(x -> x.element(5));
        changes.add(x -> x.read());
        changes.add(x -> x.hold(0));
        changes.add(x -> x.hold(1));
        changes.add(x -> x.restore(0));
        changes.add(x -> x.restore(2));
        changes.add(x -> x.plain(1));
        changes.add(x -> x.add(4, 4, 5, 1));
        changes.add(x -> x.multiply(2, 0, 0));
        changes.add(x -> x.commute(1, 0, 3));
        for (int i = 0; i < changes.size(); i++) {
            // commute(1, 0, 3) is refused: three letters.
            boolean isRefused = i == changes.size() - 1;
            CHECK.due("change " + i + " is seen", State.fullAnd(changes.get(i), true).equals(FULL), isRefused);
        }
        CHECK.due("new and full", NEW.equals(FULL), false);
    }

    /** Promises 2 and 3: "nothing comes", "nothing goes". */
    private static void tapes() {
        for (int n : new int[] {-1, State.TAPE.length() + 1, 2000, LEAST, GREATEST}) {
            refused("back(" + n + ")", x -> x.back(n), -1);
        }
        for (int n : new int[] {-1, 1, LEAST, GREATEST}) {
            refusedOfNew("back(" + n + ")", x -> x.back(n), -1);
        }
        refused("back(0)", x -> x.back(0), State.TAPE.length());
        for (int bytes = 1980; bytes <= 2000; bytes++) {
            int kept = bytes;
            Consumer<WordAlgebra> fill = x -> fill(x, kept);
            Consumer<WordAlgebra> more = x -> {
                fill(x, kept);
                CHECK.due("feed behind " + kept + " bytes", x.feed(0x2b312020, 0, -1, 0x7f7f7f7f, 1), kept > 1980 ? -1 : 2000);
            };
            boolean same = State.fullAnd(fill, true).equals(State.fullAnd(more, true));
            CHECK.due("all behind feed beyond " + kept + " bytes", same, kept > 1980);
        }
    }

    /** Blanks behind what is on the tape, up to so many bytes: 1980 .. 2000. */
    private static void fill(WordAlgebra x, int bytes) {
        x.feed(0x20202020, 0x20202020, 0x20202020, 0x20202020, 0x20202020);
        x.back(State.TAPE.length());
        for (int fed = 40; fed <= 2000; fed += 20) {
            CHECK.due("feed up to " + fed, x.feed(0x20202020, 0x20202020, 0x20202020, 0x20202020, 0x20202020), fed);
        }
        CHECK.due("bytes", x.back(2000 - bytes), bytes);
    }

    /** Promise 4: "A text with a FAULT changes nothing but the tape"; without one all that was ahead is gone. */
    private static void texts() {
        String emptied = State.fullAnd(x -> x.back(State.TAPE.length()), false);
        String[] faults = {"prime 7;letter q;law q;;", "prime 7;letter q;law (((((q)))));", "prime 7;letter q;letter q;",
            "prime 7;letter q;law z;", "prime 7;letter q;to 8;", "prime 7;letter q;letter r;letter s;to 6;law q r;",
            "prime 7;letter q;law q r;letter r;", "prime 7;letter q;law q;to 1;law q q;", "prime 4;", ";", "prime 7"};
        int[] numbers = {1, 2, 3, 4, 5, 6, 4, 7, 5, 1, 1};
        for (int i = 0; i < faults.length; i++) {
            String text = faults[i];
            int number = numbers[i];
            String behind = State.fullAnd(x -> {
                x.back(State.TAPE.length());
                CHECK.due("read of " + text, Check.read(x, text), number);
            }, false);
            CHECK.due("all behind read of " + text, behind.equals(emptied), true);
        }
        for (String text : new String[] {"", "letter x;letter y;", "letter q;law q q;", "prime 5;letter x;letter y;to 2;law y x - 2 x y;law x - x;"}) {
            String fresh = State.newAnd(x -> Check.read(x, text));
            String behind = State.fullAnd(x -> {
                x.back(State.TAPE.length());
                CHECK.due("read of <" + text + ">", Check.read(x, text), 0);
            }, true);
            CHECK.due("nothing is left of the text ahead of <" + text + ">", behind.equals(fresh), true);
        }
        CHECK.due("a new object is as behind an empty text", State.newAnd(x -> x.read()).equals(NEW), true);
    }

    /** Promise 5: "the ELEMENT stays then"; "NONE, and the tape stays". */
    private static void elementTexts() {
        for (int e : NO_ELEMENTS) {
            refused("element(" + e + ")", x -> x.element(e), -1);
            refusedOfNew("element(" + e + ")", x -> x.element(e), -1);
        }
        String emptied = State.fullAnd(x -> x.back(State.TAPE.length()), false);
        String[] faults = {"", "x +", "x;", "(((((x)))))", "x + z", "q", "x y x", "2 x - (x)(x + 1)(y)", "law x;"};
        int[] numbers = {1, 1, 1, 2, 4, 4, 7, 7, 1};
        for (int i = 0; i < faults.length; i++) {
            String sum = faults[i];
            int number = numbers[i];
            for (int e = 0; e < 6; e++) {
                int to = e;
                String behind = State.fullAnd(x -> {
                    x.back(State.TAPE.length());
                    CHECK.due("element(" + to + ") of " + sum, Check.element(x, to, sum), number);
                }, false);
                CHECK.due("all behind element(" + to + ") of " + sum, behind.equals(emptied), true);
            }
        }
    }

    /** Promises 7 to 10, 13 to 15: "no such ones". */
    private static void elementCalls() {
        for (int e : NO_ELEMENTS) {
            refused("counts(" + e + ", 0)", x -> x.counts(e, 0), -1);
            refused("words(" + e + ", 0)", x -> x.words(e, 0), -1);
            refused("words(" + e + ", 1)", x -> x.words(e, 1), -1);
            refused("put(" + e + ", 0, 1)", x -> of(x.put(e, 0, 1)), 0);
            refused("add(" + e + ", 0, 1, 1)", x -> of(x.add(e, 0, 1, 1)), 0);
            refused("add(0, " + e + ", 1, 1)", x -> of(x.add(0, e, 1, 1)), 0);
            refused("add(0, 1, " + e + ", 1)", x -> of(x.add(0, 1, e, 1)), 0);
            refused("add(0, 1, " + e + ", 0)", x -> of(x.add(0, 1, e, 0)), 0);
            refused("plain(" + e + ")", x -> x.plain(e), -1);
            refused("power(" + e + ")", x -> x.power(e), -1);
            refused("alike(" + e + ", 0)", x -> x.alike(e, 0), -1);
            refused("alike(0, " + e + ")", x -> x.alike(0, e), -1);
            refused("alike(" + e + ", " + e + ")", x -> x.alike(e, e), -1);
            refused("trace(" + e + ")", x -> x.trace(e), -1);
        }
        for (int what : new int[] {-1, 2, LEAST, GREATEST}) {
            refused("words(0, " + what + ")", x -> x.words(0, what), -1);
        }
        for (int word : NO_WORDS) {
            refused("counts(0, " + word + ")", x -> x.counts(0, word), -1);
            refused("put(0, " + word + ", 1)", x -> of(x.put(0, word, 1)), 0);
            refusedOfNew("counts(0, " + word + ")", x -> x.counts(0, word), -1);
            refusedOfNew("put(0, " + word + ", 1)", x -> of(x.put(0, word, 1)), 0);
        }
        refusedOfNew("put(5, 1000, 1)", x -> of(x.put(5, 1000, 1)), 0);
        refusedOfNew("add(6, 0, 0, 1)", x -> of(x.add(6, 0, 0, 1)), 0);
    }

    /** Promises 11 and 12: "-2, and nothing happens", "NONE, and nothing happens", and NONE where both could be told. */
    private static void products() {
        for (int e : NO_ELEMENTS) {
            for (int[] three : new int[][] {{e, 0, 5}, {0, e, 5}, {0, 5, e}, {e, 2, 2}, {4, e, 2}, {4, 2, e}, {e, e, e}}) {
                String of = "(" + three[0] + ", " + three[1] + ", " + three[2] + ")";
                refused("multiply" + of, x -> x.multiply(three[0], three[1], three[2]), -1);
                refused("commute" + of, x -> x.commute(three[0], three[1], three[2]), -1);
            }
        }
        // Elements 1 to 5 have words of two letters here, element 0 of one.
        for (int[] three : new int[][] {{4, 0, 2}, {4, 2, 0}, {0, 2, 2}, {2, 2, 2}, {5, 0, 5}, {3, 3, 0}}) {
            String of = "(" + three[0] + ", " + three[1] + ", " + three[2] + ")";
            refused("multiply" + of, x -> x.multiply(three[0], three[1], three[2]), -2);
            refused("commute" + of, x -> x.commute(three[0], three[1], three[2]), -2);
        }
    }

    /** Promises 35 and 36. */
    private static void slots() {
        for (int slot : new int[] {-1, 3, LEAST, GREATEST}) {
            refused("hold(" + slot + ")", x -> of(x.hold(slot)), 0);
            refused("restore(" + slot + ")", x -> of(x.restore(slot)), 0);
            refusedOfNew("hold(" + slot + ")", x -> of(x.hold(slot)), 0);
        }
        refused("restore(1), where nothing is held", x -> of(x.restore(1)), 0);
        for (int slot = 0; slot < 3; slot++) {
            int from = slot;
            refusedOfNew("restore(" + slot + "), where nothing is held", x -> of(x.restore(from)), 0);
        }
    }

    /** Promises 16 to 30 and 37: NONE, -1 and -9223372036854775807 change nothing. */
    private static void questionsWithoutAnswer() {
        for (int d : new int[] {-1, 3, LEAST, GREATEST}) {
            refused("size(" + d + ")", x -> x.size(d), -1);
            refused("normal(" + d + ", 0)", x -> x.normal(d, 0), -1);
            refused("base(" + d + ")", x -> x.base(d), -1);
            refused("baseAt(" + d + ", 0)", x -> x.baseAt(d, 0), -1);
            refused("chains(0, " + d + ")", x -> x.chains(0, d), -1);
            refused("dual(" + d + ")", x -> x.dual(d), -1);
            refused("inverse(" + d + ")", x -> x.inverse(d), -9223372036854775807L);
        }
        for (int d : new int[] {-1, 2, 3, LEAST, GREATEST}) {
            refused("centre(" + d + ")", x -> x.centre(d), -1);
            refused("rank(0, " + d + ", true)", x -> x.rank(0, d, true), -1);
            refused("rank(0, " + d + ", false)", x -> x.rank(0, d, false), -1);
            refused("rank(" + d + ", 0, true)", x -> x.rank(d, 0, true), -1);
        }
        for (int i : new int[] {-1, 3, LEAST, GREATEST}) {
            refused("normal(2, " + i + ")", x -> x.normal(2, i), -1);
            refused("baseAt(2, " + i + ")", x -> x.baseAt(2, i), -1);
        }
        for (int word : NO_WORDS) {
            refused("form(" + word + ", 0)", x -> x.form(word, 0), -1);
            refused("form(0, " + word + ")", x -> x.form(0, word), -1);
            refused("table(" + word + ", 2000, 0)", x -> x.table(word, 2000, 0), -1);
            refused("table(2000, " + word + ", 0)", x -> x.table(2000, word, 0), -1);
            refused("table(2000, 2000, " + word + ")", x -> x.table(2000, 2000, word), -1);
        }
        for (int n : new int[] {-1, 61, LEAST, GREATEST}) {
            refused("left(" + n + ")", x -> x.left(n), -1);
        }
        for (int n : new int[] {-1, 5, LEAST, GREATEST}) {
            refused("chains(" + n + ", 0)", x -> x.chains(n, 0), -1);
        }
        for (int what : new int[] {-1, 8, 9, 12, LEAST, GREATEST}) {
            refused("count(" + what + ")", x -> x.count(what), -1);
        }
        refused("table(2000, 1000, 0)", x -> x.table(2000, 1000, 0), -2);
        refused("weight()", x -> x.weight(), -2);
        refused("trace(0)", x -> x.trace(0), -2);
    }

    /** All that only asks, in the order of the face: "(The ELEMENT stays.)" of power, "(it stays)" of a slot. */
    private static void questions() {
        for (int e = 0; e < 6; e++) {
            int of = e;
            CHECK.due("all behind questions about " + e, State.fullAnd(x -> {
                x.counts(of, 2001);
                x.words(of, 0);
                x.words(of, 1);
                x.power(of);
                x.alike(of, 1);
                x.alike(2, of);
                x.trace(of);
            }, true).equals(FULL), true);
        }
        CHECK.due("all behind all questions", State.fullAnd(x -> {
            for (int d = 0; d <= 2; d++) {
                x.size(d);
                x.normal(d, 0);
                x.base(d);
                x.baseAt(d, 0);
                x.chains(2, d);
                x.dual(d);
                x.inverse(d);
                x.centre(d);
                x.rank(1, d, true);
                x.rank(0, d, false);
            }
            x.form(2001, 2002);
            x.table(1001, 1000, 2001);
            x.closed();
            x.left(60);
            x.growth();
            x.bent();
            x.points();
            x.modules();
            x.weight();
            x.place();
            for (int what = 0; what < 20; what++) {
                x.count(what);
            }
        }, true).equals(FULL), true);
        // A slot stays as it was, however often it is taken back and whatever becomes of the elements then.
        String restored = State.fullAnd(x -> x.restore(2), true);
        CHECK.due("restored twice", State.fullAnd(x -> {
            x.restore(0);
            x.put(3, 0, 1);
            x.plain(1);
            x.restore(2);
        }, true).equals(restored), true);
    }
}
