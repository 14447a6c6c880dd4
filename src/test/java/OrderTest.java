import java.nio.charset.StandardCharsets;
import java.util.ArrayList;
import java.util.List;
import java.util.function.ToLongFunction;

/**
 * No answer hangs on what was asked ahead of it: each question is the first one of an object, is asked twice, and is
 * asked behind all questions about each other text. The answers that are due are the slow model's.
 */
public final class OrderTest {
    private static final Check CHECK = new Check("OrderTest");

    private record Question(String name, ToLongFunction<WordAlgebra> fast, ToLongFunction<SlowAlgebra> slow) {
    }

    private static final String XY = "letter x;letter y;";
    private static final String XYZ = "letter x;letter y;letter z;";
    private static final String XYZW = "letter x;letter y;letter z;letter w;";

    private static final String[] TEXTS = {"", "prime 7;letter x;law x x x;", "prime 3;" + XY + "law x y + y x;", XY + "law y y - x x;to 5;",
        "prime 3;" + XY + "law x x + y y;law x y = 2 y x;to 4;", "prime 2;" + XYZ + "law x y + y z + z x;law x x + y y;to 4;",
        "prime 3;" + XY + "law x x y + y x x - x y x;law y y y = x y x;to 5;", "prime 2;" + XYZW + "law (x + y)(z + w);law x x;to 3;",
        "prime 5;" + XYZ + "law x x;law y y = x z;law z x;to 4;", XYZ + "law y x - x y;law z x - x z - y y;law z y - y z;to 4;",
        "prime 2;" + XYZW + "law x y z w + w z y x;law x x x x;", "prime 3;" + XY + "law x y x y x y + y x y x y x;law x x x x x x = y y y y y y;",
        XYZ + "law x y;law y z z z z;", "prime 2;" + XY + "law x - y;law x y x;to 3;", "prime 11;letter x;law x - x;",
        XYZ + "law 3 z x = x y + 5 y z;law z y + 2 x x;law z z - 7 y y;to 4;", "prime 2;" + XYZ + "law x x;law y y;law z z;law (x+y)(x+y);law (x+z)(x+z);to 3;",
        "prime 3;" + XY + "law x x x + x y y + y x x;law y y y + x x y;law x y x = 2 y y x;", "to 1;" + XY + "law x + 3 y;",
        XYZ + "law x;law y y;law z y;law y z z z z;", XYZ + "law x;law y y;law y z;law z z z z z;"};
    private static final String[] SUMS = {"x + 2", "x y - 3 y x + 1", "y y + x", "x - y", "2 x x", "z + x"};

    public static void main(String[] args) {
        List<Question> questions = questions();
        long[][] due = new long[TEXTS.length][questions.size()];
        for (int t = 0; t < TEXTS.length; t++) {
            SlowAlgebra slow = new SlowAlgebra();
            takeSlow(slow, TEXTS[t]);
            for (int q = 0; q < questions.size(); q++) {
                due[t][q] = questions.get(q).slow().applyAsLong(slow);
            }
            firstAndTwice(TEXTS[t], questions, due[t]);
            plainFirst(TEXTS[t]);
        }
        for (int ahead = 0; ahead < TEXTS.length; ahead++) {
            for (int t = 0; t < TEXTS.length; t++) {
                WordAlgebra x = new WordAlgebra();
                takeFast(x, TEXTS[ahead]);
                for (Question question : questions) {
                    question.fast().applyAsLong(x);
                }
                takeFast(x, TEXTS[t]);
                for (int q = questions.size() - 1; q >= 0; q--) {
                    String call = questions.get(q).name() + " of <" + TEXTS[t] + "> behind <" + TEXTS[ahead] + ">";
                    CHECK.due(call, questions.get(q).fast().applyAsLong(x), due[t][q]);
                }
            }
        }
        CHECK.end();
    }

    private static void firstAndTwice(String text, List<Question> questions, long[] due) {
        for (int q = 0; q < questions.size(); q++) {
            WordAlgebra x = new WordAlgebra();
            takeFast(x, text);
            Question question = questions.get(q);
            CHECK.due(question.name() + ", the first call, of <" + text + ">", question.fast().applyAsLong(x), due[q]);
            CHECK.due(question.name() + " again, of <" + text + ">", question.fast().applyAsLong(x), due[q]);
        }
    }

    /** A call that changes its element: the first one, and again. */
    private static void plainFirst(String text) {
        for (int e = 0; e < SUMS.length; e++) {
            WordAlgebra x = new WordAlgebra();
            SlowAlgebra slow = new SlowAlgebra();
            takeFast(x, text);
            takeSlow(slow, text);
            int words = slow.plain(e);
            CHECK.due("plain(" + e + "), the first call, of <" + text + ">", x.plain(e), words);
            CHECK.due("plain(" + e + ") again, of <" + text + ">", x.plain(e), words);
            CHECK.due("its greatest word", x.words(e, 1), slow.words(e, 1));
        }
    }

    /** The text, and what of the sums has letters that are told. */
    private static void takeFast(WordAlgebra x, String text) {
        CHECK.due("read of " + text, Check.read(x, text), 0);
        for (int e = 0; e < SUMS.length; e++) {
            Check.element(x, e, SUMS[e]);
        }
    }

    private static void takeSlow(SlowAlgebra x, String text) {
        tellSlow(x, text);
        CHECK.due("read of " + text, x.read(), 0);
        for (int e = 0; e < SUMS.length; e++) {
            tellSlow(x, SUMS[e]);
            x.element(e);
        }
    }

    private static void tellSlow(SlowAlgebra x, String text) {
        byte[] bytes = text.getBytes(StandardCharsets.ISO_8859_1);
        for (int at = 0; at < bytes.length; at += 20) {
            int[] five = Check.fiveFrom(bytes, at);
            x.feed(five[0], five[1], five[2], five[3], five[4]);
        }
        x.back((20 - bytes.length % 20) % 20);
    }

    private static List<Question> questions() {
        List<Question> all = new ArrayList<>();
        for (int d = 0; d <= 7; d++) {
            ofDegree(all, d);
        }
        for (int e = 0; e < 3; e++) {
            int of = e;
            all.add(new Question("power(" + e + ")", x -> x.power(of), y -> y.power(of)));
            all.add(new Question("alike(" + e + ", 1)", x -> x.alike(of, 1), y -> y.alike(of, 1)));
            all.add(new Question("trace(" + e + ")", x -> x.trace(of), y -> y.trace(of)));
            all.add(new Question("words(" + e + ", 0)", x -> x.words(of, 0), y -> y.words(of, 0)));
        }
        all.add(new Question("form(2001, 2002)", x -> x.form(2001, 2002), y -> y.form(2001, 2002)));
        all.add(new Question("form(3001, 3004)", x -> x.form(3001, 3004), y -> y.form(3001, 3004)));
        all.add(new Question("form(3001, 3007)", x -> x.form(3001, 3007), y -> y.form(3001, 3007)));
        all.add(new Question("table(1001, 2001, 3002)", x -> x.table(1001, 2001, 3002), y -> y.table(1001, 2001, 3002)));
        all.add(new Question("table(2003, 1000, 3001)", x -> x.table(2003, 1000, 3001), y -> y.table(2003, 1000, 3001)));
        all.add(new Question("closed()", x -> x.closed() ? 1 : 0, y -> y.closed() ? 1 : 0));
        for (int n : new int[] {5, 8, 60}) {
            all.add(new Question("left(" + n + ")", x -> x.left(n), y -> y.left(n)));
        }
        all.add(new Question("growth()", x -> x.growth(), y -> y.growth()));
        all.add(new Question("bent()", x -> x.bent(), y -> y.bent()));
        all.add(new Question("points()", x -> x.points(), y -> y.points()));
        all.add(new Question("modules()", x -> x.modules(), y -> y.modules()));
        all.add(new Question("weight()", x -> x.weight(), y -> y.weight()));
        for (int what : new int[] {0, 1, 2, 3, 4, 6, 7, 10, 11}) {
            all.add(new Question("count(" + what + ")", x -> x.count(what), y -> y.count(what)));
        }
        return all;
    }

    private static void ofDegree(List<Question> all, int d) {
        all.add(new Question("size(" + d + ")", x -> x.size(d), y -> y.size(d)));
        all.add(new Question("normal(" + d + ", 2)", x -> x.normal(d, 2), y -> y.normal(d, 2)));
        all.add(new Question("base(" + d + ")", x -> x.base(d), y -> y.base(d)));
        all.add(new Question("baseAt(" + d + ", 1)", x -> x.baseAt(d, 1), y -> y.baseAt(d, 1)));
        all.add(new Question("chains(2, " + d + ")", x -> x.chains(2, d), y -> y.chains(2, d)));
        all.add(new Question("dual(" + d + ")", x -> x.dual(d), y -> y.dual(d)));
        all.add(new Question("inverse(" + d + ")", x -> x.inverse(d), y -> y.inverse(d)));
        all.add(new Question("centre(" + d + ")", x -> x.centre(d), y -> y.centre(d)));
        all.add(new Question("rank(0, " + d + ", false)", x -> x.rank(0, d, false), y -> y.rank(0, d, false)));
        all.add(new Question("rank(1, " + d + ", true)", x -> x.rank(1, d, true), y -> y.rank(1, d, true)));
    }
}
