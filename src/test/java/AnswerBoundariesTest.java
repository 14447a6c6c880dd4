import java.math.BigInteger;

/**
 * Promises 7 to 37: for each sentence that names a boundary what is just inside it and just outside it. The answers are
 * those of algebras that can be told in a line: free ones, ones of which all products are nought, ones of one letter.
 */
public final class AnswerBoundariesTest {
    private static final Check CHECK = new Check("AnswerBoundariesTest");
    private static final String[] LETTERS = {"", "letter x;", "letter x;letter y;", "letter x;letter y;letter z;",
        "letter x;letter y;letter z;letter w;"};
    private static final String XY = LETTERS[2];
    private static final int[] GREATEST = {7, 7, 7, 5, 4};
    private static final int[] ODD = {Integer.MIN_VALUE, Integer.MIN_VALUE + 1, -1000, -2, Integer.MAX_VALUE - 1, Integer.MAX_VALUE};
    private static final int[] PRIMES = {2, 3, 5, 7, 11, 13, 17, 19, 23, 29, 31, 37, 41, 43, 47, 53, 59, 61, 67, 71, 73, 79, 83, 89, 97};

    public static void main(String[] args) {
        for (int letters = 0; letters <= 4; letters++) {
            for (int degree = 1; degree <= GREATEST[letters]; degree++) {
                freeDegrees(letters, degree);
                freeLower(letters, degree);
                freeWords(letters, degree);
                elementsAndSlots(letters, degree);
                products(letters, degree);
            }
        }
        allProductsNought();
        restsThatWrapAround();
        sumsThatWrapAround();
        wordsOfAnElement();
        powersOfOneLetter();
        powersTooLong();
        alikes();
        basesOfParts();
        closedByDegree();
        leftUpToTheGreatest();
        growths();
        chainsOfSteps();
        quadratic();
        waysOfFree();
        finiteInTheLastDegree();
        traces();
        noneGoesBefore();
        slots();
        counting();
        CHECK.end();
    }

    private static void due(String call, long got, long want) {
        CHECK.due(call, got, want);
    }

    private static void due(String call, boolean got, boolean want) {
        CHECK.due(call, got, want);
    }

    private static WordAlgebra told(String text) {
        WordAlgebra x = new WordAlgebra();
        due("read of " + text, Check.read(x, text), 0);
        return x;
    }

    private static WordAlgebra free(int letters, int degree) {
        return told(LETTERS[letters] + "to " + degree + ";");
    }

    private static int power(int a, int b) {
        int all = 1;
        for (int i = 0; i < b; i++) {
            all *= a;
        }
        return all;
    }

    private static String of(int letters, int degree) {
        return " of " + letters + " letters to " + degree;
    }

    /** "NONE: no such degree (0 .. THE DEGREE)", for all that asks for such a degree. */
    private static void freeDegrees(int letters, int degree) {
        WordAlgebra x = free(letters, degree);
        String of = of(letters, degree);
        for (int d = -1; d <= degree + 1; d++) {
            boolean is = d >= 0 && d <= degree;
            int words = is ? power(letters, d) : 0;
            due("size(" + d + ")" + of, x.size(d), is ? words : -1);
            due("base(" + d + ")" + of, x.base(d), is ? 0 : -1);
            due("baseAt(" + d + ", 0)" + of, x.baseAt(d, 0), -1);
            due("dual(" + d + ")" + of, x.dual(d), !is ? -1 : d == 0 ? 1 : d == 1 ? letters : 0);
            due("inverse(" + d + ")" + of, x.inverse(d), !is ? -9223372036854775807L : d == 0 ? 1 : d == 1 ? -letters : 0);
            due("normal(" + d + ", -1)" + of, x.normal(d, -1), -1);
            due("normal(" + d + ", first)" + of, x.normal(d, 0), words > 0 ? 0 : -1);
            due("normal(" + d + ", last)" + of, x.normal(d, words - 1), words > 0 ? words - 1 : -1);
            due("normal(" + d + ", all)" + of, x.normal(d, words), -1);
            for (int n = -1; n <= 5; n++) {
                boolean both = is && n >= 0 && n <= 4;
                due("chains(" + n + ", " + d + ")" + of, x.chains(n, d), !both ? -1 : n == 0 && d == 1 ? letters : 0);
            }
        }
        for (int odd : ODD) {
            due("size(" + odd + ")", x.size(odd), -1);
            due("base(" + odd + ")", x.base(odd), -1);
            due("dual(" + odd + ")", x.dual(odd), -1);
            due("inverse(" + odd + ")", x.inverse(odd), -9223372036854775807L);
            due("normal(" + odd + ", 0)", x.normal(odd, 0), -1);
            due("normal(0, " + odd + ")", x.normal(0, odd), -1);
            due("baseAt(0, " + odd + ")", x.baseAt(0, odd), -1);
            due("chains(0, " + odd + ")", x.chains(0, odd), -1);
            due("chains(" + odd + ", 0)", x.chains(odd, 0), -1);
            due("left(" + odd + ")", x.left(odd), -1);
        }
        due("closed" + of, x.closed(), true);
        due("bent" + of, x.bent(), -2);
        due("growth" + of, x.growth(), letters == 0 ? 0 : letters == 1 ? 1 : -2);
        due("weight" + of, x.weight(), letters == 0 ? 1 : -2);
    }

    /** "degree below THE DEGREE", "no such LETTER". */
    private static void freeLower(int letters, int degree) {
        WordAlgebra x = free(letters, degree);
        String of = of(letters, degree);
        for (int d = -1; d <= degree + 1; d++) {
            boolean is = d >= 0 && d < degree;
            due("centre(" + d + ")" + of, x.centre(d), !is ? -1 : d == 0 || letters == 1 ? 1 : 0);
            for (int letter = -1; letter <= letters; letter++) {
                boolean both = is && letter >= 0 && letter < letters;
                due("rank(" + letter + ", " + d + ", false)" + of, x.rank(letter, d, false), both ? power(letters, d) : -1);
                due("rank(" + letter + ", " + d + ", true)" + of, x.rank(letter, d, true), both ? power(letters, d) : -1);
            }
        }
        for (int odd : ODD) {
            due("centre(" + odd + ")", x.centre(odd), -1);
            due("rank(" + odd + ", 0, true)", x.rank(odd, 0, true), -1);
            due("rank(0, " + odd + ", false)", x.rank(0, odd, false), -1);
        }
    }

    /** "NONE: no such ones" of words; "-2: u * v has more letters than THE DEGREE". */
    private static void freeWords(int letters, int degree) {
        WordAlgebra x = free(letters, degree);
        int last = letters == 0 ? 0 : 1000 * degree + power(letters, degree) - 1;
        int none = letters == 0 ? 1000 : last + 1;
        String of = of(letters, degree);
        due("form(last, last)" + of, x.form(last, last), 1);
        due("form(1, 1)" + of, x.form(0, 0), 1);
        due("form(1, last)" + of, x.form(0, last), letters == 0 ? 1 : 0);
        due("table(1, last, last)" + of, x.table(0, last, last), 1);
        due("table(last, 1, last)" + of, x.table(last, 0, last), 1);
        due("table(1, 1, last)" + of, x.table(0, 0, last), letters == 0 ? 1 : 0);
        for (int d = 1; d <= degree && letters > 0; d++) {
            // The last words of d letters and of the others that will do, and of one letter too many.
            int u = 1000 * d + power(letters, d) - 1;
            int v = 1000 * (degree - d) + power(letters, degree - d) - 1;
            due("table(" + u + ", " + v + ", last)" + of, x.table(u, v, last), 1);
            due("table(" + v + ", " + u + ", last)" + of, x.table(v, u, last), 1);
            due("table(" + u + ", " + v + ", 1)" + of, x.table(u, v, 0), 0);
            int longer = 1000 * (degree - d + 1) + power(letters, degree - d + 1) - 1;
            due("table(" + u + ", " + longer + ", last)" + of, x.table(u, longer, last), -2);
            due("table(" + longer + ", " + u + ", 1)" + of, x.table(longer, u, 0), -2);
            due("table(" + u + ", " + longer + ", none)" + of, x.table(u, longer, none), -1);
        }
        for (int word : new int[] {none, -1, 1, 999, 1000 * (degree + 1), Integer.MIN_VALUE, Integer.MAX_VALUE}) {
            due("form(" + word + ", 0)" + of, x.form(word, 0), -1);
            due("form(0, " + word + ")" + of, x.form(0, word), -1);
            due("table(" + word + ", 0, 0)" + of, x.table(word, 0, 0), -1);
            due("table(0, " + word + ", 0)" + of, x.table(0, word, 0), -1);
            due("table(0, 0, " + word + ")" + of, x.table(0, 0, word), -1);
            due("counts(0, " + word + ")" + of, x.counts(0, word), -1);
            due("put(0, " + word + ", 1)" + of, x.put(0, word, 1), false);
        }
    }

    /** "ELEMENTS 0 .. 5", "a SLOT (0 .. 2)", "what 0", "1". */
    private static void elementsAndSlots(int letters, int degree) {
        WordAlgebra x = free(letters, degree);
        int last = letters == 0 ? 0 : 1000 * degree + power(letters, degree) - 1;
        for (int e = -1; e <= 6; e++) {
            boolean is = e >= 0 && e <= 5;
            String of = "(" + e + ")" + of(letters, degree);
            due("words" + of, x.words(e, 1), is ? -2 : -1);
            due("put" + of, x.put(e, last, e + 1), is);
            due("counts" + of, x.counts(e, last), is ? e + 1 : -1);
            due("words" + of, x.words(e, 0), is ? 1 : -1);
            due("words" + of, x.words(e, 1), is ? last : -1);
            due("words, what -1" + of, x.words(e, -1), -1);
            due("words, what 2" + of, x.words(e, 2), -1);
            due("plain" + of, x.plain(e), is ? 1 : -1);
            due("power" + of, x.power(e), is ? -2 : -1);
            due("alike" + of, x.alike(e, e), is ? 1 : -1);
            due("alike" + of, x.alike(e, 0), is ? e == 0 ? 1 : 0 : -1);
            due("trace" + of, x.trace(e), !is ? -1 : letters == 0 ? e + 1 : -2);
            due("add to" + of, x.add(e, 0, 0, 0), is);
            due("add a" + of, x.add(0, e, 0, 0), is);
            due("add b" + of, x.add(0, 0, e, 0), is);
        }
        for (int slot = -1; slot <= 3; slot++) {
            boolean is = slot >= 0 && slot <= 2;
            due("restore(" + slot + ")", x.restore(slot), false);
            due("hold(" + slot + ")", x.hold(slot), is);
            due("restore(" + slot + ")", x.restore(slot), is);
            due("slots", x.count(6), is ? slot + 1 : slot < 0 ? 0 : 3);
        }
    }

    /** "-2 .. something would have more letters than THE DEGREE": the longest words of two elements, all pairs. */
    private static void products(int letters, int degree) {
        WordAlgebra x = free(letters, degree);
        for (int i = 0; i <= degree && letters > 0; i++) {
            for (int j = 0; j <= degree; j++) {
                // Both have shorter words too, which would do.
                x.add(0, 5, 5, 0);
                x.add(1, 5, 5, 0);
                x.put(0, 0, 1);
                x.put(1, 0, 1);
                x.put(0, 1000 * i, 1);
                x.put(1, 1000 * j, 1);
                String of = " of " + i + " and " + j + " letters" + of(letters, degree);
                due("multiply" + of, x.multiply(2, 0, 1), i + j <= degree ? 0 : -2);
                due("commute" + of, x.commute(3, 0, 1), i + j <= degree ? 0 : -2);
                due("greatest of the product" + of, x.words(2, 1), i + j <= degree ? 1000 * (i + j) : -2);
                // All are powers of one letter: each lifts the other.
                due("nothing of the other" + of, x.words(3, 0), 0);
                x.add(2, 5, 5, 0);
                due("nought by it" + of, x.multiply(4, 5, 1), 0);
                due("it by nought" + of, x.commute(4, 1, 5), 0);
            }
        }
    }

    /** The other end: all words of two letters are nought; SIZE 0 from 2 on. */
    private static void allProductsNought() {
        WordAlgebra x = told("prime 2;" + XY + "law x x;law x y;law y x;law y y;");
        long inverse = 1;
        for (int d = 0; d <= 7; d++) {
            due("size(" + d + ")", x.size(d), d == 0 ? 1 : d == 1 ? 2 : 0);
            due("normal(" + d + ", 0)", x.normal(d, 0), d < 2 ? 0 : -1);
            due("base(" + d + ")", x.base(d), d == 2 ? 4 : 0);
            due("baseAt(" + d + ", 3)", x.baseAt(d, 3), d == 2 ? 3 : -1);
            due("baseAt(" + d + ", 4)", x.baseAt(d, 4), -1);
            due("dual(" + d + ")", x.dual(d), power(2, d));
            due("inverse(" + d + ")", x.inverse(d), inverse);
            inverse *= -2;
            due("centre(" + d + ")", x.centre(d), d == 0 ? 1 : d == 1 ? 2 : d < 7 ? 0 : -1);
            due("rank(1, " + d + ", true)", x.rank(1, d, true), d == 0 ? 1 : d < 7 ? 0 : -1);
            due("left(" + d + ")", x.left(d), d == 0 ? 1 : d == 1 ? 2 : 0);
            for (int n = 0; n <= 4; n++) {
                due("chains(" + n + ", " + d + ")", x.chains(n, d), d == n + 1 ? power(2, d) : 0);
            }
        }
        due("left(60)", x.left(60), 0);
        due("growth", x.growth(), 0);
        due("closed", x.closed(), true);
        due("bent", x.bent(), -2);
        due("weight", x.weight(), 3);
        due("points", x.points(), 1);
        // Nought and four; each of the three others with itself and nought.
        due("modules", x.modules(), 10);
    }

    /** "A WORD counts c (as a rest)". */
    private static void restsThatWrapAround() {
        for (int prime : PRIMES) {
            WordAlgebra x = told("prime " + prime + ";letter x;");
            int[] values = {0, 1, -1, prime - 1, prime, prime + 1, 1 - prime, -prime, -prime - 1, 1000000007, Integer.MAX_VALUE, Integer.MIN_VALUE};
            for (int c : values) {
                due("put " + c, x.put(0, 7000, c), true);
                due(c + " by " + prime, x.counts(0, 7000), Math.floorMod(c, prime));
                due("words", x.words(0, 0), Math.floorMod(c, prime) == 0 ? 0 : 1);
                due("greatest", x.words(0, 1), Math.floorMod(c, prime) == 0 ? -2 : 7000);
            }
        }
    }

    /** "a + c * b", with any c, and where to is a or b or both. */
    private static void sumsThatWrapAround() {
        for (int prime : new int[] {2, 3, 89, 97}) {
            for (int c : new int[] {0, 1, -1, prime, -prime, prime - 1, Integer.MAX_VALUE, Integer.MIN_VALUE, Integer.MIN_VALUE + 1}) {
                WordAlgebra x = told("prime " + prime + ";letter x;");
                x.put(0, 1000, prime - 1);
                x.put(1, 1000, prime - 1);
                x.put(1, 0, 1);
                int both = (int) Math.floorMod((long) (prime - 1) + (long) c * (prime - 1), (long) prime);
                due("add", x.add(2, 0, 1, c), true);
                due("a + " + c + " b by " + prime, x.counts(2, 1000), both);
                due(c + " b by " + prime, x.counts(2, 0), Math.floorMod(c, prime));
                due("add to a", x.add(0, 0, 1, c), true);
                due("a + " + c + " b", x.counts(0, 1000), both);
                due("b stays", x.counts(1, 1000), prime - 1);
                due("add to a and b", x.add(1, 1, 1, c), true);
                due("b + " + c + " b", x.counts(1, 0), Math.floorMod(1L + c, (long) prime));
            }
        }
    }

    /** "-2: it is nought" beside the empty word's code 0. */
    private static void wordsOfAnElement() {
        WordAlgebra x = told(LETTERS[3]);
        due("nought: words", x.words(0, 0), 0);
        due("nought: greatest", x.words(0, 1), -2);
        x.put(0, 0, 1);
        due("1: words", x.words(0, 0), 1);
        due("1: greatest", x.words(0, 1), 0);
        // All 364 words.
        for (int d = 0; d <= 5; d++) {
            for (int w = 0; w < power(3, d); w++) {
                x.put(0, 1000 * d + w, 1);
            }
        }
        due("all: words", x.words(0, 0), 364);
        due("all: greatest", x.words(0, 1), 5242);
        due("all: plain", x.plain(0), 364);
    }

    /** "The least k (1 .. 7)", "7 times are not". */
    private static void powersOfOneLetter() {
        for (int k = 1; k <= 7; k++) {
            WordAlgebra x = told("letter x;law" + " x".repeat(k) + ";");
            due("power of nought", x.power(5), 1);
            Check.element(x, 0, "x");
            due("x to the " + k + "th is nought: power", x.power(0), k);
            Check.element(x, 1, "1");
            due("power of 1", x.power(1), -2);
            Check.element(x, 2, "x + 1");
            due("power of x + 1", x.power(2), -2);
        }
        WordAlgebra x = told("letter x;");
        Check.element(x, 0, "x");
        due("not nought, 7 times", x.power(0), -2);
        due("power(-1)", x.power(-1), -1);
        due("power(6)", x.power(6), -1);
        // 1 letter more for each factor: the 7 letters of the last product are those that will do.
        x = told(XY + "law x y x y x y x;");
        Check.element(x, 0, "x + y");
        due("x + y", x.power(0), -2);
        Check.read(x, "prime 2;" + XY + "law x x;law y y;law x y x y x y x;law x y x y x y x + y x y x y x y;");
        Check.element(x, 0, "x + y");
        due("x + y, xyxyxyx and yxyxyxy nought", x.power(0), 7);
    }

    /** "or a product would have more letters than THE DEGREE": of plain form times plain form. */
    private static void powersTooLong() {
        // (x + xx)^2 has four letters, its plain form two; (xx)(x + xx) again four, nought.
        String text = "letter x;law x x x;";
        String[] degrees = {"to 3;", "to 4;", "to 5;"};
        int[] powers = {-2, 3, 3};
        for (int i = 0; i < degrees.length; i++) {
            WordAlgebra x = told(text + degrees[i]);
            Check.element(x, 0, "x + x x");
            due("x + xx " + degrees[i], x.power(0), powers[i]);
            Check.element(x, 0, "x x");
            due("xx " + degrees[i], x.power(0), powers[i] == -2 ? -2 : 2);
            Check.element(x, 0, "x");
            due("x " + degrees[i], x.power(0), 3);
            Check.element(x, 0, "x x x");
            due("xxx, plain nought " + degrees[i], x.power(0), 1);
            Check.element(x, 0, "x + x x x");
            due("x + xxx, plain x " + degrees[i], x.power(0), 3);
            due("the element stays", x.counts(0, 3000), 1);
        }
        WordAlgebra x = told("letter x;to 6;");
        Check.element(x, 0, "x x");
        due("8 letters", x.power(0), -2);
        due("it stays", x.words(0, 1), 2000);
    }

    /** "1 if two ELEMENTS differ by NOUGHT alone, else 0". */
    private static void alikes() {
        WordAlgebra x = told(XY + "law y x - x y;to 3;");
        String[] ones = {"y x", "y x", "y x + 1", "y x", "2 x y", "y y x", "y y x", "0", "0"};
        String[] others = {"x y", "x y + 1", "x y + 1", "y x + x", "x y + y x", "x y y", "x x y", "y x - x y", "y x + x y"};
        int[] alike = {1, 0, 1, 0, 1, 1, 0, 1, 0};
        for (int i = 0; i < ones.length; i++) {
            Check.element(x, 0, ones[i]);
            Check.element(x, 1, others[i]);
            due(ones[i] + " and " + others[i], x.alike(0, 1), alike[i]);
            due(others[i] + " and " + ones[i], x.alike(1, 0), alike[i]);
        }
        due("alike(0, 6)", x.alike(0, 6), -1);
        due("alike(-1, 0)", x.alike(-1, 0), -1);
    }

    /** "no shorter part (of letters beside one another) is LEADING". */
    private static void basesOfParts() {
        WordAlgebra x = told(LETTERS[3] + "law x z;law x y z;law z x y;law x y x z;law y x z;");
        due("xz", x.base(2), 1);
        due("xz", x.baseAt(2, 0), 2);
        // In xyz x and z are not beside one another; in xyxz and yxz they are.
        due("xyz and zxy", x.base(3), 2);
        due("xyz", x.baseAt(3, 0), 5);
        due("zxy", x.baseAt(3, 1), 19);
        due("none", x.baseAt(3, 2), -1);
        due("xyxz", x.base(4), 0);
        due("in all", x.count(7), 3);
        x = told(XY + "law x;law y;");
        due("both letters", x.base(1), 2);
        due("no words but those", x.count(7), 2);
        due("size(1)", x.size(1), 0);
        due("growth", x.growth(), 0);
        due("left(60)", x.left(60), 0);
        due("chains(0, 1)", x.chains(0, 1), 0);
    }

    /** "both laid on one another so are no more than THE DEGREE letters". */
    private static void closedByDegree() {
        for (int to = 1; to <= 7; to++) {
            for (int k = 1; k <= to; k++) {
                WordAlgebra x = told("letter x;law" + " x".repeat(k) + ";to " + to + ";");
                due("x to the " + k + "th, to " + to + ": closed", x.closed(), 2 * k - 1 <= to);
            }
        }
        for (int to = 2; to <= 7; to++) {
            for (int a = 1; a < to; a++) {
                for (int b = 1; b < to; b++) {
                    WordAlgebra x = told(XY + "law" + " x".repeat(a) + " y;law y" + " x".repeat(b) + ";to " + to + ";");
                    due("x^" + a + " y and y x^" + b + ", to " + to + ": closed", x.closed(), a + b + 1 <= to);
                    Check.read(x, XY + "law" + " x".repeat(a) + " y;to " + to + ";");
                    due("x^" + a + " y alone: closed", x.closed(), true);
                }
            }
        }
    }

    /** "WORDS of n letters (0 .. 60) are LEFT, 9223372036854775807 at most". */
    private static void leftUpToTheGreatest() {
        BigInteger most = BigInteger.valueOf(9223372036854775807L);
        for (int letters = 0; letters <= 4; letters++) {
            WordAlgebra x = told(LETTERS[letters]);
            BigInteger words = BigInteger.ONE;
            for (int n = 0; n <= 60; n++) {
                due("left(" + n + ") of " + letters + " letters", x.left(n), words.min(most).longValue());
                words = words.multiply(BigInteger.valueOf(letters));
            }
            due("left(61)", x.left(61), -1);
            due("left(-1)", x.left(-1), -1);
        }
        // No xx among z letters: a(n) = (z - 1) (a(n - 1) + a(n - 2)).
        for (int letters = 2; letters <= 4; letters++) {
            WordAlgebra x = told(LETTERS[letters] + "law x x;");
            BigInteger one = BigInteger.ONE;
            BigInteger two = BigInteger.valueOf(letters);
            for (int n = 0; n <= 60; n++) {
                due("left(" + n + ") without xx", x.left(n), one.min(most).longValue());
                BigInteger next = one.add(two).multiply(BigInteger.valueOf(letters - 1));
                one = two;
                two = next;
            }
        }
        // By the greatest number told it is no matter which way the words beyond it go: yy ends all of them at z.
        WordAlgebra x = told(LETTERS[4] + "law z x;law z y;law z z;law z w;");
        due("3^39 ahead and 3^38 with z behind", x.left(39), 4052555153018976267L + 1350851717672992089L);
        due("3^40 and more", x.left(40), 9223372036854775807L);
        due("3^60 and more", x.left(60), 9223372036854775807L);
    }

    /** "0 there are none from some length on, -2 they grow faster than any power, else the greatest number of circles". */
    private static void growths() {
        String[] laws = {"law x;law y;", "law x;", "law x x;law y y;law x y;law y x;", "law x x;law y y;law x y;", "law x x;law y y;", "law x y;",
            "law x x;", "law x x x;law y y;law y x y;", "law x x x;law y y;", "law x x;law y x;", "law x x;law y x y;law y y y;",
            "law x x x x x x x;law y;", "law x x x x x x;law y y;law y x;"};
        // Without xxx, yy and yxy two x stand between each two y: one circle.
        int[] growths = {0, 1, 0, 0, 1, 2, -2, 1, -2, 1, 0, 0, 0};
        for (int i = 0; i < laws.length; i++) {
            due("growth of " + laws[i], told(XY + laws[i]).growth(), growths[i]);
        }
        due("y's and then x's: two circles one behind the other", told(XY + "law x y x;law x y y;to 3;").growth(), 2);
        due("from x's to y's and back is one place twice", told(XY + "law x y x;").growth(), -2);
        // Of 81 places number 64 is zyxy. Circles of x alone and of z alone (of xy and of x) that do not come to one another.
        due("z's and then zyxy, which ends", told(LETTERS[3]
                + "law x z;law y y;law y z;law z x;law x x y;law x y x;law y x x x x;").growth(), 1);
        due("zyxy and then xy's", told(LETTERS[3] + "law x z;law y y;law y z;law z x;law z z;law x x y;law y x x x x;").growth(), 1);
    }

    /** "n steps (0 .. 4)": of x^k alone the letters of chains are 1, k, k + 1, 2 k, 2 k + 1. */
    private static void chainsOfSteps() {
        for (int k = 2; k <= 7; k++) {
            WordAlgebra x = told("letter x;law" + " x".repeat(k) + ";");
            int[] letters = {1, k, k + 1, 2 * k, 2 * k + 1};
            for (int n = 0; n <= 4; n++) {
                for (int d = 0; d <= 7; d++) {
                    due("chains(" + n + ", " + d + ") of x^" + k, x.chains(n, d), d == letters[n] ? 1 : 0);
                }
            }
            due("chains(-1, 1)", x.chains(-1, 1), -1);
            due("chains(5, 1)", x.chains(5, 1), -1);
        }
        // "no other one anywhere": behind xx, y ends xxy, and xy in it is none of the base; in xyxy there are two ends.
        WordAlgebra x = told(XY + "law x x y;law x y y;");
        due("xxy and xyy", x.chains(1, 3), 2);
        due("xxyy", x.chains(2, 4), 1);
        due("none of five", x.chains(2, 5), 0);
        Check.read(x, XY + "law x;");
        due("y alone is left", x.chains(0, 1), 1);
        due("none behind it", x.chains(1, 2), 0);
    }

    /** "QUADRATIC: all LAWS that are not nought have 2 letters". */
    private static void quadratic() {
        String[] laws = {"", "law x - x;", "law 0;", "law x x;", "law x x;law y - y;", "law x;", "law x x;law y;", "law x x x;",
            "law x x;law x x x;", "law x x;law x x;", "law x y = x y;law x x x - x x x;", "law x x x x x x x;"};
        boolean[] is = {true, true, true, true, true, false, false, false, false, true, true, false};
        for (int i = 0; i < laws.length; i++) {
            WordAlgebra x = told(XY + laws[i]);
            due("dual(0) of " + laws[i], x.dual(0), is[i] ? 1 : -2);
            due("dual(7) of " + laws[i], x.dual(7) >= 0, is[i]);
            due("dual(8) of " + laws[i], x.dual(8), -1);
            due("dual(-1) of " + laws[i], x.dual(-1), -1);
            due("bent of " + laws[i], x.bent(), is[i] ? -2 : -3);
        }
        WordAlgebra x = told(XY + "law x - x;to 1;");
        due("to 1: dual(1)", x.dual(1), 2);
        due("to 1: dual(2)", x.dual(2), -1);
        due("to 1: bent", x.bent(), -2);
        Check.read(x, XY + "law x;to 1;");
        due("to 1: dual(1)", x.dual(1), -2);
        due("to 1: bent", x.bent(), -3);
        // The laws of the dual give nought coefficient by coefficient: of xx + 2 xy + 3 yx three are independent.
        Check.read(x, "prime 7;" + XY + "law x x + 2 x y + 3 y x;");
        due("dual(2)", x.dual(2), 1);
        Check.read(x, "prime 2;" + XY + "law x x + y y;");
        due("a law that is in its own dual", x.dual(2), 1);
        due("xxx = xyy = 0 there", x.dual(3), 0);
    }

    /** "-2: more than 100000 ways in all", "more than 65536 ways in all": all primes, all numbers of letters. */
    private static void waysOfFree() {
        for (int letters = 0; letters <= 4; letters++) {
            for (int prime : PRIMES) {
                WordAlgebra x = told(LETTERS[letters] + "prime " + prime + ";");
                BigInteger points = BigInteger.valueOf(prime).pow(letters);
                BigInteger modules = points.pow(4);
                boolean fewPoints = points.compareTo(BigInteger.valueOf(100000)) <= 0;
                boolean fewModules = modules.compareTo(BigInteger.valueOf(65536)) <= 0;
                due("points of " + letters + " letters by " + prime, x.points(), fewPoints ? points.intValue() : -2);
                due("modules of " + letters + " letters by " + prime, x.modules(), fewModules ? modules.intValue() : -2);
                if (letters > 0) {
                    // So many ways in all there are with laws too.
                    Check.read(x, LETTERS[letters] + "prime " + prime + ";law x;");
                    due("x is 0: points", x.points(), fewPoints ? points.intValue() / prime : -2);
                    due("x is 0: modules", x.modules(), fewModules ? modules.intValue() / prime / prime / prime / prime : -2);
                }
            }
        }
        due("4 letters by 2", told("prime 2;" + LETTERS[4]).modules(), 65536);
        due("4 letters by 17", told("prime 17;" + LETTERS[4]).points(), 83521);
        due("4 letters by 19", told("prime 19;" + LETTERS[4]).points(), -2);
    }

    /** "FINITE: some degree up to THE DEGREE has SIZE 0". */
    private static void finiteInTheLastDegree() {
        for (int k = 1; k <= 7; k++) {
            for (int to = k; to <= 7; to++) {
                due("x^" + k + " to " + to + ": weight", told("letter x;law" + " x".repeat(k) + ";to " + to + ";").weight(), k);
            }
            due("free to " + k + ": weight", told("letter x;to " + k + ";").weight(), -2);
        }
        due("no letters", told("to 1;").weight(), 1);
        due("yy is left", told(XY + "to 2;law x x;law x y;law y x;").weight(), -2);
        due("nothing is left", told(XY + "to 2;law x x;law x y;law y x;law y y;").weight(), 3);
        due("not up to 2", told(XY + "to 2;law x x;law y y;law x y;").weight(), -2);
        due("up to 3", told(XY + "to 3;law x x;law y y;law x y;").weight(), 4);
    }

    /** "what is of more letters than THE DEGREE is nought then"; "-2: it is not FINITE". */
    private static void traces() {
        for (int prime : new int[] {2, 5, 97}) {
            WordAlgebra x = told("prime " + prime + ";letter x;law x x x x x x x;");
            for (int c = 0; c < prime; c++) {
                Check.element(x, 0, c + " + x + 3 x x x x x x x");
                due(c + " seven times by " + prime, x.trace(0), 7 * c % prime);
            }
            due("trace(6)", x.trace(6), -1);
            due("trace(-1)", x.trace(-1), -1);
            Check.read(x, "prime " + prime + ";letter x;");
            due("not finite", x.trace(0), -2);
            due("not finite, no element", x.trace(6), -1);
        }
    }

    /** "Where NONE and -2 could both be told, it is NONE". */
    private static void noneGoesBefore() {
        WordAlgebra x = told(XY + "to 2;law x;");
        Check.element(x, 0, "x y");
        for (int e : new int[] {-1, 6}) {
            due("multiply(" + e + ", too long)", x.multiply(e, 0, 0), -1);
            due("commute(" + e + ", too long)", x.commute(e, 0, 0), -1);
            due("trace(" + e + ")", x.trace(e), -1);
            due("power(" + e + ")", x.power(e), -1);
            due("words(" + e + ", 1)", x.words(e, 1), -1);
        }
        due("words(1, 2)", x.words(1, 2), -1);
        due("table too long, no such w", x.table(2000, 1000, 3000), -1);
        due("table too long, no such v", x.table(2000, 3000, 0), -1);
        due("table too long, no such u", x.table(3000, 2000, 0), -1);
        due("dual(3), not quadratic", x.dual(3), -1);
        due("dual(-1), not quadratic", x.dual(-1), -1);
        due("dual(2), not quadratic", x.dual(2), -2);
    }

    /** "ELEMENTS are held in a SLOT"; "They are those that a SLOT holds (it stays)"; "nothing is held". */
    private static void slots() {
        WordAlgebra x = told(XY + "to 2;");
        for (int slot = 0; slot <= 2; slot++) {
            for (int e = 0; e <= 5; e++) {
                x.put(e, 2000 + e % 4, 10 * slot + e + 1);
            }
            due("hold(" + slot + ")", x.hold(slot), true);
            due("count(6)", x.count(6), slot + 1);
        }
        for (int slot = 2; slot >= 0; slot--) {
            due("restore(" + slot + ")", x.restore(slot), true);
            for (int e = 0; e <= 5; e++) {
                due("element " + e + " of slot " + slot, x.counts(e, 2000 + e % 4), 10 * slot + e + 1);
                x.add(e, e, e, -1);
            }
            due("restore(" + slot + ")", x.restore(slot), true);
            due("it stays", x.counts(5, 2001), 10 * slot + 6);
        }
        due("held again", x.hold(2), true);
        due("count(6)", x.count(6), 3);
        x.restore(1);
        x.restore(2);
        due("what is held latest", x.counts(0, 2000), 1);
        due("a text takes all", Check.read(x, "letter x;"), 0);
        for (int slot = 0; slot <= 2; slot++) {
            due("restore(" + slot + ")", x.restore(slot), false);
        }
        due("count(6)", x.count(6), 0);
    }

    /** "10 and a LAW: its length (0: it is nought). NONE for others." */
    private static void counting() {
        for (int laws = 0; laws <= 8; laws++) {
            StringBuilder text = new StringBuilder("letter x;");
            for (int i = 0; i < laws; i++) {
                text.append("law").append(" x".repeat(i)).append(i == 0 ? " 0" : "").append(';');
            }
            WordAlgebra x = told(text.toString());
            due("laws", x.count(3), laws);
            due("nought laws", x.count(4), Math.min(laws, 1));
            due("base in all", x.count(7), laws > 1 ? 1 : 0);
            for (int what = -2; what <= 22; what++) {
                if (what < 0 || what > 7) {
                    due("count(" + what + ") of " + laws, x.count(what), what >= 10 && what < 10 + laws ? what - 10 : -1);
                }
            }
            for (int odd : ODD) {
                due("count(" + odd + ")", x.count(odd), -1);
            }
        }
        // "7 WORDS of the BASE in all": those of one letter and those of THE DEGREE are among them.
        due("xxxx alone", told(XY + "to 4;law x x x x;").count(7), 1);
        due("y, xx", told(XY + "to 2;law y;law x x;").count(7), 2);
        due("x, zz, yyyyy", told(LETTERS[3] + "law x;law z z;law y y y y y;").count(7), 3);
        due("none", told(LETTERS[3]).count(7), 0);
    }
}
