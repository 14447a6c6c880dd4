import java.util.Random;

/** The same calls, ordinary ones and wrong ones, on the program and on the slow model: all answers must be alike. */
public final class RandomRunsTest {
    private final Check check = new Check("RandomRunsTest");
    private final Random random;
    private final Texts texts;
    private WordAlgebra fast;
    private SlowAlgebra slow;
    private String latest = "";

    private RandomRunsTest(long seed) {
        random = new Random(seed);
        texts = new Texts(random);
    }

    public static void main(String[] args) {
        long seed = args.length > 1 ? Long.parseLong(args[1]) : 1;
        int runs = args.length > 2 ? Integer.parseInt(args[2]) : 260;
        RandomRunsTest test = new RandomRunsTest(seed);
        for (int run = 0; run < runs && test.check.wrongs() == 0; run++) {
            test.run(run);
        }
        test.check.end();
    }

    private void due(String call, long got, long want) {
        if (got != want) {
            check.due("after <" + latest + ">: " + call, got, want);
        } else {
            check.due("", got, want);
        }
    }

    private void due(String call, boolean got, boolean want) {
        due(call, got ? 1 : 0, want ? 1 : 0);
    }

    private void run(int run) {
        fast = new WordAlgebra();
        slow = new SlowAlgebra();
        latest = "";
        askAll(false);
        int rounds = 1 + random.nextInt(3);
        for (int round = 0; round < rounds; round++) {
            String text = texts.text(run % 6 == 0 ? 4 : 3);
            if (random.nextInt(5) == 0) {
                text = random.nextBoolean() ? texts.spoilt(text) : texts.tokens(false);
            }
            tell(text);
            due("read", fast.read(), slow.read());
            latest = slow.place() == -1 ? text : latest;
            due("place after " + text, fast.place(), slow.place());
            for (int i = 0; i < 40; i++) {
                change();
            }
            askAll(run % 20 == 0);
        }
    }

    private void tell(String text) {
        byte[] bytes = text.getBytes(java.nio.charset.StandardCharsets.ISO_8859_1);
        due("count(5)", fast.count(5), slow.count(5));
        for (int at = 0; at < bytes.length; at += 20) {
            int[] five = Check.fiveFrom(bytes, at);
            due("feed", fast.feed(five[0], five[1], five[2], five[3], five[4]), slow.feed(five[0], five[1], five[2], five[3], five[4]));
        }
        int spare = (20 - bytes.length % 20) % 20;
        due("back", fast.back(spare), slow.back(spare));
    }

    /** An element mostly, else one of the wrong numbers beside them. */
    private int element() {
        return random.nextInt(25) == 0 ? random.nextBoolean() ? -1 : 6 : random.nextInt(6);
    }

    private int degree() {
        return random.nextInt(slow.count(2) + 3) - 1;
    }

    private int word() {
        if (random.nextInt(20) == 0) {
            int[] odd = {-1, -1000, 8000, 7000, 1000, 1, 999, Integer.MAX_VALUE, Integer.MIN_VALUE};
            return odd[random.nextInt(odd.length)];
        }
        int d = random.nextInt(slow.count(2) + 1);
        int words = (int) Math.pow(slow.count(1), d);
        return 1000 * d + random.nextInt(words + (random.nextInt(10) == 0 || words == 0 ? 1 : 0));
    }

    private int shortWord() {
        int d = random.nextInt(Math.min(3, slow.count(2) + 1));
        int words = (int) Math.pow(slow.count(1), d);
        return words == 0 ? 0 : 1000 * d + random.nextInt(words);
    }

    private void change() {
        int a = element();
        int b = element();
        int to = element();
        int word = random.nextBoolean() ? word() : shortWord();
        int c = random.nextInt(8) == 0 ? random.nextInt() : random.nextInt(200) - 100;
        switch (random.nextInt(14)) {
            case 0:
            case 1:
                tellElement(a);
                break;
            case 2:
            case 3:
                due("put(" + a + "," + word + "," + c + ")", fast.put(a, word, c), slow.put(a, word, c));
                break;
            case 4:
            case 5:
                due("add(" + to + "," + a + "," + b + "," + c + ")", fast.add(to, a, b, c), slow.add(to, a, b, c));
                break;
            case 6:
            case 7:
                due("multiply(" + to + "," + a + "," + b + ")", fast.multiply(to, a, b), slow.multiply(to, a, b));
                break;
            case 8:
                due("commute(" + to + "," + a + "," + b + ")", fast.commute(to, a, b), slow.commute(to, a, b));
                break;
            case 9:
                due("plain(" + a + ")", fast.plain(a), slow.plain(a));
                break;
            case 10:
                due("add(" + to + ", nought)", fast.add(to, a, a, -1), slow.add(to, a, a, -1));
                break;
            case 11:
                int slot = random.nextInt(5) - 1;
                due("hold(" + slot + ")", fast.hold(slot), slow.hold(slot));
                break;
            case 12:
                int from = random.nextInt(5) - 1;
                due("restore(" + from + ")", fast.restore(from), slow.restore(from));
                break;
            default:
                int n = random.nextInt(50) == 0 ? 1980 : random.nextInt(30) - 3;
                due("back(" + n + ")", fast.back(n), slow.back(n));
                break;
        }
        int e = random.nextInt(6);
        due("words(" + e + ",0)", fast.words(e, 0), slow.words(e, 0));
        due("words(" + e + ",1)", fast.words(e, 1), slow.words(e, 1));
        due("counts(" + e + "," + word + ")", fast.counts(e, word), slow.counts(e, word));
    }

    private void tellElement(int e) {
        String sum = texts.sum(slow.count(1), slow.count(2));
        if (random.nextInt(6) == 0) {
            sum = random.nextBoolean() ? texts.spoilt(sum) : texts.tokens(true);
        }
        tell(sum);
        due("element(" + e + ") of " + sum, fast.element(e), slow.element(e));
        due("place() of " + sum, fast.place(), slow.place());
        due("count(5)", fast.count(5), slow.count(5));
    }

    private void askAll(boolean withDear) {
        for (int what = -1; what < 20; what++) {
            due("count(" + what + ")", fast.count(what), slow.count(what));
        }
        for (int d = -1; d <= slow.count(2) + 1; d++) {
            askDegree(d);
        }
        for (int e = -1; e <= 6; e++) {
            due("power(" + e + ")", fast.power(e), slow.power(e));
            due("trace(" + e + ")", fast.trace(e), slow.trace(e));
            int f = element();
            due("alike(" + e + "," + f + ")", fast.alike(e, f), slow.alike(e, f));
            due("words(" + e + ",2)", fast.words(e, 2), slow.words(e, 2));
            due("words(" + e + ",0)", fast.words(e, 0), slow.words(e, 0));
            due("words(" + e + ",1)", fast.words(e, 1), slow.words(e, 1));
        }
        for (int i = 0; i < 30; i++) {
            int u = word();
            int v = word();
            int w = random.nextInt(3) == 0 ? u : random.nextBoolean() ? v : word();
            due("form(" + u + "," + v + ")", fast.form(u, v), slow.form(u, v));
            due("form(" + v + "," + v + ")", fast.form(v, v), slow.form(v, v));
            int s = shortWord();
            int t = shortWord();
            due("table(" + s + "," + t + "," + w + ")", fast.table(s, t, w), slow.table(s, t, w));
            due("table(" + u + "," + v + "," + w + ")", fast.table(u, v, w), slow.table(u, v, w));
        }
        due("closed()", fast.closed(), slow.closed());
        due("growth()", fast.growth(), slow.growth());
        due("weight()", fast.weight(), slow.weight());
        due("bent()", fast.bent(), slow.bent());
        for (int n : new int[] {-1, 0, 1, 2, 3, 5, 8, 9, 20, 59, 60, 61}) {
            due("left(" + n + ")", fast.left(n), slow.left(n));
        }
        if (withDear || Math.pow(slow.count(0), slow.count(1)) < 400) {
            due("points()", fast.points(), slow.points());
        }
        if (withDear || Math.pow(slow.count(0), 4 * slow.count(1)) < 700) {
            due("modules()", fast.modules(), slow.modules());
        }
    }

    private void askDegree(int d) {
        due("size(" + d + ")", fast.size(d), slow.size(d));
        due("base(" + d + ")", fast.base(d), slow.base(d));
        due("dual(" + d + ")", fast.dual(d), slow.dual(d));
        due("inverse(" + d + ")", fast.inverse(d), slow.inverse(d));
        due("centre(" + d + ")", fast.centre(d), slow.centre(d));
        for (int i = -1; i <= slow.size(d); i += 1 + random.nextInt(8)) {
            due("normal(" + d + "," + i + ")", fast.normal(d, i), slow.normal(d, i));
        }
        due("normal(" + d + ", all)", fast.normal(d, slow.size(d)), -1);
        for (int i = -1; i <= slow.base(d) + 1; i++) {
            due("baseAt(" + d + "," + i + ")", fast.baseAt(d, i), slow.baseAt(d, i));
        }
        for (int n = -1; n <= 5; n++) {
            due("chains(" + n + "," + d + ")", fast.chains(n, d), slow.chains(n, d));
        }
        for (int letter = -1; letter <= slow.count(1); letter++) {
            due("rank(" + letter + "," + d + ",true)", fast.rank(letter, d, true), slow.rank(letter, d, true));
            due("rank(" + letter + "," + d + ",false)", fast.rank(letter, d, false), slow.rank(letter, d, false));
        }
    }
}
