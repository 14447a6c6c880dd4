/** For each promise answers worked out by hand: ordinary inputs, the edges that the document names, wrong inputs. */
public final class PromisesTest {
    private static final Check CHECK = new Check("PromisesTest");
    private static final String XY = "letter x;letter y;";
    private static final String XYZ = "letter x;letter y;letter z;";
    private static final String XYZW = "letter x;letter y;letter z;letter w;";
    /** Words up to four letters of which the order does not count. */
    private static final String PLANE = XY + "law y x - x y;to 4;";
    /** Squares are nought, and letters change places with another sign. */
    private static final String OUTER = XYZ + "law x x;law y y;law z z;law x y + y x;law x z + z x;law y z + z y;";

    public static void main(String[] args) {
        newObject();
        feedAndBack();
        reading();
        elementTexts();
        places();
        coefficients();
        sumsAndProducts();
        plainAndPowers();
        sizesAndForms();
        bases();
        leftWords();
        growths();
        chains();
        duals();
        series();
        centres();
        ranks();
        points();
        modules();
        weights();
        slots();
        counting();
        CHECK.end();
    }

    private static void due(String call, long got, long want) {
        CHECK.due(call, got, want);
    }

    private static void due(String call, boolean got, boolean want) {
        CHECK.due(call, got, want);
    }

    private static WordAlgebra told(String text) {
        WordAlgebra x = new WordAlgebra();
        due("read of " + text, Check.read(x, text), 0);
        return x;
    }

    /** Promise 1. */
    private static void newObject() {
        WordAlgebra x = new WordAlgebra();
        WordAlgebra y = new WordAlgebra();
        due("read() of an empty tape", y.read(), 0);
        for (WordAlgebra one : new WordAlgebra[] {x, y}) {
            int[] counts = {97, 0, 7, 0, 0, 0, 0, 0, -1, -1, -1};
            for (int i = 0; i < counts.length; i++) {
                due("new: count(" + i + ")", one.count(i), counts[i]);
            }
            due("new: place()", one.place(), -1);
            due("new: words(0, 0)", one.words(0, 0), 0);
            due("new: words(5, 1)", one.words(5, 1), -2);
            due("new: restore(0)", one.restore(0), false);
            due("new: size(0)", one.size(0), 1);
            due("new: size(7)", one.size(7), 0);
            due("new: size(8)", one.size(8), -1);
            due("new: weight()", one.weight(), 1);
            due("new: modules()", one.modules(), 1);
        }
        due("NONE", WordAlgebra.NONE, -1);
    }

    /** Promises 2 and 3. */
    private static void feedAndBack() {
        WordAlgebra x = new WordAlgebra();
        due("back(0), empty", x.back(0), 0);
        due("back(1), empty", x.back(1), -1);
        for (int i = 1; i <= 100; i++) {
            due("feed " + i, x.feed(0x20202020, 0x20202020, 0x20202020, 0x20202020, 0x20202020), 20 * i);
        }
        due("feed beyond 2000", x.feed(0, 0, 0, 0, 0), -1);
        due("count(5)", x.count(5), 2000);
        due("back(19)", x.back(19), 1981);
        due("feed beyond 2000", x.feed(0, 0, 0, 0, 0), -1);
        due("back(1)", x.back(1), 1980);
        due("feed up to 2000", x.feed(0x20202020, 0x20202020, 0x20202020, 0x20202020, 0x20202020), 2000);
        due("back(-1)", x.back(-1), -1);
        due("back(2001)", x.back(2001), -1);
        due("back(least)", x.back(Integer.MIN_VALUE), -1);
        due("back(greatest)", x.back(Integer.MAX_VALUE), -1);
        due("2000 blanks", x.read(), 0);
        due("the tape is empty then", x.count(5), 0);
        // "prime 7;" and twelve bytes that go again: the highest byte of a number comes first.
        due("feed", x.feed(0x7072696d, 0x6520373b, -1, -1, -1), 20);
        due("back(12)", x.back(12), 8);
        due("back(0)", x.back(0), 8);
        due("read", x.read(), 0);
        due("count(0)", x.count(0), 7);
        due("feed", x.feed(0x61626364, 0x65666768, 0x696a6b6c, 0x6d6e6f70, 0x71727374), 20);
        due("back(20)", x.back(20), 0);
    }

    private static void fault(String text, int fault, int place) {
        WordAlgebra x = new WordAlgebra();
        Check.read(x, "prime 5;letter q;law q q;");
        Check.element(x, 0, "3 q");
        x.hold(1);
        due("fault of <" + text + ">", Check.read(x, text), fault);
        due("place of <" + text + ">", x.place(), place);
        due("tape behind <" + text + ">", x.count(5), 0);
        boolean stays = fault != 0;
        due("element behind <" + text + ">", x.words(0, 0), stays ? 1 : 0);
        due("slots behind <" + text + ">", x.count(6), stays ? 1 : 0);
        due("restore behind <" + text + ">", x.restore(1), stays);
        if (stays) {
            due("prime behind <" + text + ">", x.count(0), 5);
            due("letters behind <" + text + ">", x.count(1), 1);
            due("degree behind <" + text + ">", x.count(2), 7);
            due("laws behind <" + text + ">", x.count(10), 2);
            due("names behind <" + text + ">", Check.element(x, 1, "q"), 0);
            due("sizes behind <" + text + ">", x.weight(), 2);
        }
    }

    /** Promise 4. */
    private static void reading() {
        syntaxFaults();
        roomFaults();
        otherFaults();
        WordAlgebra x = told("prime 3;" + XY + "to 2;prime 5;to 3;law x = y;");
        due("the last prime told", x.count(0), 5);
        due("the last degree told", x.count(2), 3);
        due("x = y: base(1)", x.base(1), 1);
        due("x = y: baseAt", x.baseAt(1, 0), 1);
        due("brackets", Check.read(x, "prime 3;" + XY + "law -(x - (y + 2 x))(x)((x + y)) ;"), 0);
        due("-(2x-y)x(x+y) = (x+y)x(x+y): leads yxy", x.baseAt(3, 0), 5);
        due("its form", x.form(3000, 3005), 2);
        due("signs within", Check.read(x, "letter x;letter y;law (-x + y)2;"), 1);
        due("a number of many bytes", Check.read(x, "prime\t0007\r;\nletter abcdefgh;law 0002abcdefgh;"), 0);
        due("prime", x.count(0), 7);
        due("law", x.count(10), 1);
        due("names that begin like a word", Check.read(x, "letter lawx;letter top;letter primes;letter let;law lawx top;"), 0);
        due("letters", x.count(1), 4);
        due("degree of four letters", x.count(2), 4);
        due("three letters", Check.read(x, XYZ), 0);
        due("degree of three letters", x.count(2), 5);
        due("two letters", Check.read(x, XY), 0);
        due("degree of two letters", x.count(2), 7);
        due("no letters", Check.read(x, "to 7;law 0;law 97;law 1 = 1;law (2)(3) - 6;"), 0);
        due("laws", x.count(3), 4);
        due("nought laws", x.count(4), 4);
        due("the prime counts wherever it is told", Check.read(x, XY + "law 7 x + x y;prime 7;"), 0);
        due("its law", x.count(10), 2);
    }

    private static void syntaxFaults() {
        fault("", 0, -1);
        fault("  \t\r\n", 0, -1);
        fault("x", 1, 0);
        fault(";", 1, 0);
        fault("letter x;;", 1, 9);
        fault("prime", 1, 5);
        fault("prime  ", 1, 7);
        fault("prime 5", 1, 7);
        fault("prime 5 5;", 1, 8);
        fault("prime x;", 1, 6);
        fault("prime 12345;", 1, 6);
        fault("letter law;", 1, 7);
        fault("letter prime;", 1, 7);
        fault("letter to;", 1, 7);
        fault("letter letter;", 1, 7);
        fault("letter abcdefghi;", 1, 7);
        fault("letter X;", 1, 7);
        fault("letter 3;", 1, 7);
        fault("letter x.;", 1, 8);
        fault("\u000bletter x;", 1, 0);
        fault("\u00e9", 1, 0);
        fault("letter x;law;", 1, 12);
        fault("letter x;law x = x = x;", 1, 19);
        fault("letter x;law (x = x);", 1, 16);
        fault("letter x;law (x;", 1, 15);
        fault("letter x;law x);", 1, 14);
        fault("letter x;law ();", 1, 14);
        fault("letter x;law x 2;", 1, 15);
        fault("letter x;law x2;", 1, 14);
        fault("letter x;law 2 3;", 1, 15);
        fault("letter x;law - - x;", 1, 15);
        fault("letter x;law +x;", 1, 13);
        fault("letter x;law x + - x;", 1, 17);
        fault("letter x;law x +;", 1, 16);
        fault("letter x;law x", 1, 14);
        fault("letter x;law x = ", 1, 17);
        fault("letter x;law x law x;", 1, 15);
        fault("letter x;law -x = -2x;", 0, -1);
        fault("letter x;letter x;prime 4;law z;.", 1, 32);
    }

    private static void roomFaults() {
        fault("letter x;".repeat(5), 2, 36);
        fault("letter x;".repeat(4) + "letter ;", 2, 36);
        fault("letter x;letter", 1, 15);
        fault("letter x;" + "law x;".repeat(8), 0, -1);
        fault("letter x;" + "law x;".repeat(9), 2, 57);
        fault("letter x;law ((((x))));", 0, -1);
        fault("letter x;law ((((x))))((((x))));", 0, -1);
        fault("letter x;law (((((x)))));", 2, 17);
        fault("letter x;law ((((2(x))));", 2, 18);
        fault("letter x;law ((((x ;", 1, 19);
        // 3 + 131 * 3 + 4 TOKENS are 400.
        String most = "letter x;" + "to 7;".repeat(131) + "law - x;";
        fault(most, 0, -1);
        fault(most + "  to 7;", 2, most.length() + 2);
        fault(most + " x", 1, most.length() + 1);
        fault(most + "abcdefghi", 1, most.length());
        fault("to 7;".repeat(133) + "to x", 1, 668);
        fault("to 7;".repeat(133) + "to 7", 2, 668);
        fault("to 7;".repeat(133) + "to", 1, 667);
    }

    private static void otherFaults() {
        fault("letter x;letter x;", 3, 16);
        fault("letter x;letter y;letter x;letter y;", 3, 25);
        fault("law x;letter x;", 4, 4);
        fault("letter x;law x = y;", 4, 17);
        fault("letter x;law x(x(2 xx));", 4, 19);
        fault("prime 4;", 5, 6);
        fault("prime 0;", 5, 6);
        fault("prime 1;", 5, 6);
        fault("prime 91;", 5, 6);
        fault("prime 101;", 5, 6);
        fault("prime 9973;", 5, 6);
        fault("prime 2;prime 97;", 0, -1);
        fault("prime 4;prime 5;", 5, 6);
        fault("to 0;", 5, 3);
        fault("to 8;", 5, 3);
        fault("to 8;to 7;", 5, 3);
        fault("to 7;to 1;", 0, -1);
        fault("prime 4;letter x;letter x;", 5, 6);
        fault("letter x;letter x;prime 4;", 3, 16);
        fault("law y;letter x;letter x;", 4, 4);
        fault(XYZW + "to 5;", 6, 39);
        fault(XYZW + "to 4;", 0, -1);
        fault("to 6;" + XYZ, 6, 3);
        fault("to 5;" + XYZ, 0, -1);
        fault("to 6;" + XYZ + "to 5;", 0, -1);
        fault("to 5;" + XYZ + "to  6;", 6, 36);
        fault("to 7;" + XY, 0, -1);
        fault("letter x;law 1;to 5;letter y;letter z;letter w;", 6, 18);
        fault("letter x;law x + x x;", 7, 9);
        fault("letter x;law x = x x;", 7, 9);
        fault("letter x;law 2;", 7, 9);
        fault("law 97;", 0, -1);
        fault("law 98;", 7, 0);
        fault("prime 7;law 98;", 0, -1);
        fault("letter x;law x - x;", 0, -1);
        fault("letter x;law x;law 1 + x;law 1;", 7, 15);
        fault("letter x;to 2;law x x x - x x x;", 7, 14);
        fault("letter x;to 2;law x x = x x x;", 7, 14);
        fault("letter x;to 2;law x x = 0 x(x)(x - x);", 7, 14);
        fault("letter x;law 0 x x x x x x x x;", 7, 9);
        fault("letter x;law 0 (x + x x x x)(x x x);", 0, -1);
        fault("letter x;law x(x + 1) - x;", 0, -1);
    }

    private static void elementFault(String text, int fault, int place) {
        WordAlgebra x = told(PLANE);
        Check.element(x, 2, "x y");
        due("element <" + text + ">", Check.element(x, 2, text), fault);
        due("place <" + text + ">", x.place(), place);
        due("tape behind <" + text + ">", x.count(5), 0);
        if (fault != 0) {
            due("it stays", x.counts(2, 2001), 1);
            due("it stays", x.words(2, 0), 1);
        }
    }

    /** Promise 5. */
    private static void elementTexts() {
        elementFault("", 1, 0);
        elementFault("   ", 1, 3);
        elementFault("x;", 1, 1);
        elementFault("x = y", 1, 2);
        elementFault("law x", 1, 0);
        elementFault("x)", 1, 1);
        elementFault("(x", 1, 2);
        elementFault("x y 2", 1, 4);
        elementFault("x + ", 1, 4);
        elementFault("abcdefghi", 1, 0);
        elementFault("(((((x)))))", 2, 4);
        elementFault("((((x))))", 0, -1);
        elementFault("x" + "+x".repeat(199) + "+", 1, 400);
        elementFault("1" + "+1".repeat(199) + "-1", 2, 400);
        elementFault("-1" + "+1".repeat(199), 0, -1);
        elementFault("x + z", 4, 4);
        elementFault("x x x x x z", 4, 10);
        elementFault("1 + x x x x x", 7, 0);
        elementFault("  x x (x x (y) - 1)", 7, 0);
        elementFault("0 x x x x x", 7, 0);
        elementFault("x x x x", 0, -1);
        WordAlgebra x = told(PLANE);
        Check.tell(x, "98 x (y - 2)(3 + y) + 1");
        due("element(6)", x.element(6), -1);
        due("element(-1)", x.element(-1), -1);
        due("the tape stays", x.count(5), 23);
        due("element(5)", x.element(5), 0);
        due("x y y", x.counts(5, 3003), 1);
        due("x y", x.counts(5, 2001), 1);
        due("x", x.counts(5, 1000), 91);
        due("1", x.counts(5, 0), 1);
        due("words", x.words(5, 0), 4);
        due("it is not made plain", Check.element(x, 0, "y x"), 0);
        due("y x", x.counts(0, 2002), 1);
    }

    /** Promise 6. */
    private static void places() {
        WordAlgebra x = new WordAlgebra();
        due("place()", x.place(), -1);
        Check.read(x, "letter x; letter x;");
        due("place() of a read", x.place(), 17);
        due("place() again", x.place(), 17);
        Check.element(x, 0, "1 + x");
        due("place() of an element", x.place(), 4);
        Check.element(x, 0, "1");
        due("place() without", x.place(), -1);
        Check.element(x, 0, "(");
        due("place() at the end", x.place(), 1);
        Check.read(x, "letter x;");
        due("place() without", x.place(), -1);
    }

    /** Promises 7, 8 and 9. */
    private static void coefficients() {
        WordAlgebra x = told(PLANE);
        due("put", x.put(0, 2002, -1), true);
        due("counts", x.counts(0, 2002), 96);
        due("put", x.put(0, 0, Integer.MAX_VALUE), true);
        due("2^31 - 1 by 97", x.counts(0, 0), Integer.MAX_VALUE % 97);
        due("put", x.put(0, 4015, Integer.MIN_VALUE), true);
        due("-2^31 by 97", x.counts(0, 4015), Math.floorMod(Integer.MIN_VALUE, 97));
        due("words", x.words(0, 0), 3);
        due("greatest", x.words(0, 1), 4015);
        due("put nothing", x.put(0, 4015, 97 * 5), true);
        due("greatest", x.words(0, 1), 2002);
        int[] odd = {-1, 1, 999, 1002, 2004, 4016, 5000, 8000, Integer.MAX_VALUE, Integer.MIN_VALUE};
        for (int word : odd) {
            due("counts(0, " + word + ")", x.counts(0, word), -1);
            due("put(0, " + word + ")", x.put(0, word, 1), false);
        }
        for (int e : new int[] {-1, 6, Integer.MAX_VALUE, Integer.MIN_VALUE}) {
            due("counts(" + e + ", 0)", x.counts(e, 0), -1);
            due("put(" + e + ", 0)", x.put(e, 0, 1), false);
            due("words(" + e + ", 0)", x.words(e, 0), -1);
            due("words(" + e + ", 1)", x.words(e, 1), -1);
        }
        due("words(0, 2)", x.words(0, 2), -1);
        due("words(0, -1)", x.words(0, -1), -1);
        due("words(5, 1)", x.words(5, 1), -2);
        due("words(5, 0)", x.words(5, 0), 0);
        due("put 1", x.put(5, 0, 1), true);
        due("words(5, 1)", x.words(5, 1), 0);
    }

    /** Promises 10, 11 and 12. */
    private static void sumsAndProducts() {
        WordAlgebra x = told(PLANE);
        Check.element(x, 0, "x + 2 y");
        Check.element(x, 1, "3 y - 1");
        due("add", x.add(2, 0, 1, -2), true);
        due("x", x.counts(2, 1000), 1);
        due("y", x.counts(2, 1001), 93);
        due("1", x.counts(2, 0), 2);
        due("add to itself", x.add(0, 0, 0, 96), true);
        due("nought", x.words(0, 1), -2);
        due("add, greatest", x.add(3, 1, 1, Integer.MAX_VALUE), true);
        due("y", x.counts(3, 1001), Math.floorMod(3L + 3L * Integer.MAX_VALUE, 97L));
        due("add, least", x.add(3, 0, 1, Integer.MIN_VALUE), true);
        due("y", x.counts(3, 1001), Math.floorMod(3L * Integer.MIN_VALUE, 97L));
        Check.element(x, 0, "x + 2 y");
        due("add(6..)", x.add(6, 0, 0, 1), false);
        due("add(0,-1..)", x.add(0, -1, 0, 1), false);
        due("add(0,0,6)", x.add(0, 0, 6, 1), false);
        due("it stays", x.counts(0, 1001), 2);
        due("multiply into itself", x.multiply(0, 0, 1), 0);
        due("x y", x.counts(0, 2001), 3);
        due("y y", x.counts(0, 2003), 6);
        due("x", x.counts(0, 1000), 96);
        due("y", x.counts(0, 1001), 95);
        due("words", x.words(0, 0), 4);
        due("square", x.multiply(0, 0, 0), 0);
        due("y y y y", x.counts(0, 4015), 36);
        due("too long", x.multiply(0, 0, 1), -2);
        due("nothing happens", x.counts(0, 4015), 36);
        due("nought by all", x.multiply(5, 4, 0), 0);
        due("nought", x.words(5, 0), 0);
        due("multiply(6,0,0)", x.multiply(6, 0, 0), -1);
        due("multiply(0,6,0)", x.multiply(0, 6, 0), -1);
        due("multiply(0,0,-1)", x.multiply(0, 0, -1), -1);
        due("commute(6,0,0)", x.commute(6, 0, 0), -1);
        due("commute(0,-1,0)", x.commute(0, -1, 0), -1);
        due("commute(0,0,6)", x.commute(0, 0, 6), -1);
        due("commute, too long though it would be lifted", x.commute(0, 0, 0), -2);
        Check.element(x, 3, "x");
        Check.element(x, 4, "y + 1");
        due("commute", x.commute(4, 3, 4), 0);
        due("x y", x.counts(4, 2001), 1);
        due("y x", x.counts(4, 2002), 96);
        due("words", x.words(4, 0), 2);
        due("with itself", x.commute(3, 3, 3), 0);
        due("nought", x.words(3, 0), 0);
    }

    /** Promises 13, 14 and 15. */
    private static void plainAndPowers() {
        WordAlgebra x = told(PLANE);
        Check.element(x, 0, "y x + x y + y y x x + 5");
        due("alike before", x.alike(0, 1), 0);
        x.add(1, 0, 0, 0);
        due("plain", x.plain(0), 3);
        due("x y", x.counts(0, 2001), 2);
        due("x x y y", x.counts(0, 4003), 1);
        due("alike", x.alike(0, 1), 1);
        due("plain of plain", x.plain(0), 3);
        Check.element(x, 2, "x y - y x");
        due("alike to nought", x.alike(2, 3), 1);
        due("power of nought", x.power(2), 1);
        due("it stays", x.words(2, 0), 2);
        due("plain to nought", x.plain(2), 0);
        due("power of 1", x.power(0), -2);
        for (int e : new int[] {-1, 6}) {
            due("plain", x.plain(e), -1);
            due("power", x.power(e), -1);
            due("alike", x.alike(e, 0), -1);
            due("alike", x.alike(0, e), -1);
        }
        powers();
    }

    private static void powers() {
        WordAlgebra x = told("letter x;law x x x x;");
        Check.element(x, 0, "x");
        due("x to the 4th", x.power(0), 4);
        Check.element(x, 1, "x x + x x x");
        due("its square", x.power(1), 2);
        Check.element(x, 2, "x x x x x x + 96");
        due("less 1", x.power(2), -2);
        Check.element(x, 3, "x x x x + x x x");
        due("PLAIN of it has no more than 3 letters", x.power(3), 2);
        Check.element(x, 4, "x x x + 1");
        due("6 letters, then 1 again", x.power(4), -2);
        Check.read(x, "letter x;law x x x x x x x;");
        Check.element(x, 0, "x");
        due("x to the 7th", x.power(0), 7);
        Check.element(x, 1, "x + x x");
        due("8 letters before it is nought", x.power(1), -2);
        Check.read(x, "letter x;to 6;");
        Check.element(x, 0, "x");
        due("x to the 7th has too many letters", x.power(0), -2);
        Check.read(x, OUTER);
        Check.element(x, 0, "x + y + z");
        due("its square is nought", x.power(0), 2);
        Check.element(x, 0, "x y + z");
        due("xyz twice", x.power(0), 3);
    }

    /** Promises 16 to 19. */
    private static void sizesAndForms() {
        WordAlgebra x = told(OUTER);
        int[] sizes = {1, 3, 3, 1, 0, 0};
        for (int d = 0; d < sizes.length; d++) {
            due("size(" + d + ")", x.size(d), sizes[d]);
        }
        int[] normals = {1, 2, 5};
        for (int i = 0; i < 3; i++) {
            due("normal(2, " + i + ")", x.normal(2, i), normals[i]);
        }
        due("normal(3, 0)", x.normal(3, 0), 5);
        for (int[] none : new int[][] {{-1, 0}, {6, 0}, {2, 3}, {2, -1}, {4, 0}, {Integer.MIN_VALUE, 0}, {2, Integer.MAX_VALUE}}) {
            due("normal", x.normal(none[0], none[1]), -1);
        }
        for (int d : new int[] {-1, 6, Integer.MAX_VALUE, Integer.MIN_VALUE}) {
            due("size(" + d + ")", x.size(d), -1);
        }
        // zyx: three changes of sign; z is letter 2: zyx is 21, xyz is 5.
        due("form(xyz, zyx)", x.form(3005, 3021), 96);
        due("form(zyx, zyx)", x.form(3021, 3021), 0);
        due("form(xyz, yzx)", x.form(3005, 3015), 1);
        due("form of another length", x.form(2001, 3021), 0);
        due("form(1, 1)", x.form(0, 0), 1);
        due("form(x, none)", x.form(1000, 1003), -1);
        due("form(none, x)", x.form(-1, 1000), -1);
        due("table(yz, x, xyz)", x.table(2005, 1000, 3005), 1);
        due("table(zy, x, xyz)", x.table(2007, 1000, 3005), 96);
        due("table(1, x, x)", x.table(0, 1000, 1000), 1);
        due("table(x, 1, y)", x.table(1000, 0, 1001), 0);
        due("table(x, y, x)", x.table(1000, 1001, 1000), 0);
        due("table, too long", x.table(3000, 3000, 0), -2);
        due("table, too long and none", x.table(3000, 3000, 6000), -1);
        due("table(none, x, x)", x.table(27000, 1000, 1000), -1);
        due("table(x, none, x)", x.table(1000, 1003, 1000), -1);
        due("table(x, x, none)", x.table(1000, 1000, -5), -1);
    }

    /** Promises 20, 21 and 22. */
    private static void bases() {
        WordAlgebra x = told(OUTER);
        int[] base = {0, 3, 4, 6, 7, 8};
        due("base(2)", x.base(2), 6);
        for (int i = 0; i < 6; i++) {
            due("baseAt(2, " + i + ")", x.baseAt(2, i), base[i]);
        }
        due("baseAt(2, 6)", x.baseAt(2, 6), -1);
        due("baseAt(2, -1)", x.baseAt(2, -1), -1);
        due("baseAt(6, 0)", x.baseAt(6, 0), -1);
        due("baseAt(-1, 0)", x.baseAt(-1, 0), -1);
        due("base(0)", x.base(0), 0);
        due("base(5)", x.base(5), 0);
        due("base(6)", x.base(6), -1);
        due("base(-1)", x.base(-1), -1);
        due("closed", x.closed(), true);
        Check.read(x, XY + "law y x - x x;to 2;");
        due("yx has no overlap", x.closed(), true);
        Check.read(x, XY + "law y y - x x;");
        due("yy and yxx", x.base(3), 1);
        due("yxx", x.baseAt(3, 0), 4);
        due("closed", x.closed(), true);
        Check.read(x, XY + "law y y - x x;to 3;");
        due("yy and yxx are laid on one another with 4 letters", x.closed(), false);
        Check.read(x, "letter x;law x x x x;to 7;");
        due("xxxx and xxxx: 7 letters", x.closed(), true);
        Check.read(x, "letter x;law x x x x;to 6;");
        due("xxxx and xxxx: 7 letters", x.closed(), false);
        Check.read(x, "letter x;letter y;law x;to 1;");
        due("one letter alone", x.closed(), true);
        due("base(1)", x.base(1), 1);
        Check.read(x, XY + "to 3;law x x y;law y x x;");
        due("xxy and yxx", x.closed(), false);
        Check.read(x, XY + "to 3;law x x y;");
        due("xxy alone", x.closed(), true);
        // The word xyx is leading in degree 3, and all that has it in it is no word of the base.
        Check.read(x, XY + "law x y x;law x x y x;");
        due("base(4)", x.base(4), 0);
    }

    /** Promise 23. */
    private static void leftWords() {
        WordAlgebra x = told(XY + "law x y;");
        due("left(0)", x.left(0), 1);
        due("left(7)", x.left(7), 8);
        due("left(8)", x.left(8), 9);
        due("left(60)", x.left(60), 61);
        due("left(61)", x.left(61), -1);
        due("left(-1)", x.left(-1), -1);
        Check.read(x, XYZW);
        due("4^5", x.left(5), 1024);
        due("4^31", x.left(31), 1L << 62);
        due("4^32 and more", x.left(32), Long.MAX_VALUE);
        due("4^60 and more", x.left(60), Long.MAX_VALUE);
        Check.read(x, XY + "law x x;");
        long a = 1;
        long b = 2;
        for (int n = 0; n <= 60; n++) {
            due("no xx: left(" + n + ")", x.left(n), a);
            long next = a + b;
            a = b;
            b = next;
        }
        Check.read(x, XY + "to 1;law x;");
        due("one letter is left", x.left(60), 1);
        Check.read(x, XYZ + "to 1;law x - y;");
        due("two letters are left", x.left(10), 1024);
        Check.read(x, "letter x;law x;");
        due("none", x.left(5), 0);
        due("none", x.left(30), 0);
        due("the empty word", x.left(0), 1);
    }

    /** Promise 24. */
    private static void growths() {
        String[] texts = {"", "letter x;", "letter x;law x x x;", XY, XY + "law x x;", XY + "law x y;", XY + "law x;", OUTER,
            XYZ + "law y x - x y;law z x - x z;law z y - y z;", XY + "law x x;law y y;", XY + "law x y x;law y y;", XYZ + "to 1;law x;",
            XYZW + "law y x;law z x;law w x;law z y;law w y;law w z;", XY + "law x x;law x y;", XY + "law x y x;law x y y;",
            // Places of four of three letters, up to zzzz: number 80.
            XYZ + "law x;law y y;law z y;law y z z z z;", XYZ + "law x z;law x y;law z y;law y y;law y z z z z;",
            XYZ + "law z x;law x y;law z y;law y y;law y x;law y z z z z;", XYZ + "law x;law y z z z z;", XYZ + "law x;law y;law z z z z z;"};
        int[] growths = {0, 1, 0, -2, -2, 2, 1, 0, 3, 1, 1, -2, 4, 1, 2, 1, 2, 2, -2, 0};
        for (int i = 0; i < texts.length; i++) {
            WordAlgebra x = told(texts[i]);
            due("growth of " + texts[i], x.growth(), growths[i]);
        }
    }

    /** Promise 25. */
    private static void chains() {
        WordAlgebra x = told(OUTER);
        // For quadratic words: chains of n steps are words of n + 1 letters all of whose pairs are in the base.
        int[] amounts = {3, 6, 10, 15, 21};
        for (int n = 0; n <= 4; n++) {
            for (int d = 0; d <= 5; d++) {
                due("chains(" + n + ", " + d + ")", x.chains(n, d), d == n + 1 ? amounts[n] : 0);
            }
        }
        for (int[] none : new int[][] {{-1, 1}, {5, 1}, {0, -1}, {0, 6}, {Integer.MAX_VALUE, Integer.MIN_VALUE}}) {
            due("chains", x.chains(none[0], none[1]), -1);
        }
        Check.read(x, "letter x;law x x x;");
        int[] lengths = {1, 3, 4, 6, 7};
        for (int n = 0; n <= 4; n++) {
            for (int d = 0; d <= 7; d++) {
                due("xxx: chains(" + n + ", " + d + ")", x.chains(n, d), d == lengths[n] ? 1 : 0);
            }
        }
        Check.read(x, XY + "law x;law y y;");
        due("x is not left", x.chains(0, 1), 1);
        due("yy", x.chains(1, 2), 1);
        due("x and another are no chain", x.chains(1, 1), 0);
        Check.read(x, XY + "law x y x;");
        due("xyx", x.chains(1, 3), 1);
        due("xyxyx", x.chains(2, 5), 1);
        due("xyxyxyx", x.chains(3, 7), 1);
    }

    /** Promises 26 and 27. */
    private static void duals() {
        WordAlgebra x = told(OUTER);
        int[] sizes = {1, 3, 6, 10, 15, 21};
        for (int d = 0; d < sizes.length; d++) {
            due("dual(" + d + ")", x.dual(d), sizes[d]);
        }
        due("dual(6)", x.dual(6), -1);
        due("dual(-1)", x.dual(-1), -1);
        due("bent", x.bent(), -2);
        Check.read(x, XY + "law x x x;");
        due("not quadratic", x.dual(2), -2);
        due("not quadratic, no degree", x.dual(8), -1);
        due("not quadratic", x.bent(), -3);
        Check.read(x, XY + "law x;");
        due("not quadratic", x.bent(), -3);
        Check.read(x, XY + "law x - x;law 2 x y;to 1;");
        due("longer than the degree", x.place(), 28);
        Check.read(x, XY + "law x - x;to 1;");
        due("all nought", x.dual(1), 2);
        due("all nought", x.bent(), -2);
        Check.read(x, "prime 2;" + XY + "law x x - x x;law x y = y x;");
        due("prime 2: dual(2)", x.dual(2), 1);
        due("prime 2: dual(3)", x.dual(3), 0);
        Check.read(x, XY + "law x x;law x y;law y x;");
        for (int d = 1; d <= 7; d++) {
            due("no yy: dual(" + d + ")", x.dual(d), d == 1 ? 2 : fibonacci(d + 2));
        }
        due("laws of one word each are never bent", x.bent(), -2);
        Check.read(x, XY + "law x x;law y y = -x y;");
        sizesAndDuals(x, new int[] {1, 2, 2, 1, 0, 0, 0, 0}, new int[] {1, 2, 2, 1, 1, 1, 1, 1});
        due("0 - 2 + 4 - 2 + 1", x.bent(), 4);
        Check.read(x, XYZ + "law x x;law y y = x z;law z x;");
        sizesAndDuals(x, new int[] {1, 3, 6, 11, 19, 35}, new int[] {1, 3, 3, 2, 2, 2});
        due("35 - 57 + 33 - 12 + 6 - 2", x.bent(), 5);
        Check.read(x, XYZ + "to 4;law x x;law y y = x z;law z x;");
        due("not up to 4", x.bent(), -2);
    }

    private static void sizesAndDuals(WordAlgebra x, int[] sizes, int[] duals) {
        for (int d = 0; d < sizes.length; d++) {
            due("size(" + d + ")", x.size(d), sizes[d]);
            due("dual(" + d + ")", x.dual(d), duals[d]);
        }
    }

    private static int fibonacci(int n) {
        int a = 0;
        int b = 1;
        for (int i = 0; i < n; i++) {
            int next = a + b;
            a = b;
            b = next;
        }
        return a;
    }

    /** Promise 28. */
    private static void series() {
        WordAlgebra x = told(OUTER);
        long[] inverse = {1, -3, 6, -10, 15, -21};
        for (int d = 0; d < inverse.length; d++) {
            due("inverse(" + d + ")", x.inverse(d), inverse[d]);
        }
        for (int d : new int[] {-1, 6, Integer.MAX_VALUE, Integer.MIN_VALUE}) {
            due("inverse(" + d + ")", x.inverse(d), -9223372036854775807L);
        }
        Check.read(x, XYZW);
        due("free", x.inverse(1), -4);
        due("free", x.inverse(2), 0);
        due("free", x.inverse(4), 0);
    }

    /** Promise 29. */
    private static void centres() {
        WordAlgebra x = told(OUTER);
        int[] centres = {1, 0, 3, 1, 0};
        for (int d = 0; d < centres.length; d++) {
            due("centre(" + d + ")", x.centre(d), centres[d]);
        }
        due("centre(5)", x.centre(5), -1);
        due("centre(-1)", x.centre(-1), -1);
        Check.read(x, "prime 2;" + OUTER);
        due("no signs by 2", x.centre(1), 3);
        Check.read(x, XY);
        due("free", x.centre(0), 1);
        due("free", x.centre(3), 0);
        Check.read(x, XY + "law y x + x y;");
        int[] squares = {1, 0, 2, 0, 3, 0, 4};
        for (int d = 0; d < squares.length; d++) {
            due("even powers: centre(" + d + ")", x.centre(d), squares[d]);
        }
        Check.read(x, "");
        due("no letters", x.centre(0), 1);
        due("no letters", x.centre(6), 0);
        due("no letters", x.centre(7), -1);
    }

    /** Promise 30. */
    private static void ranks() {
        WordAlgebra x = told(XY + "law x y;");
        due("x * x, x * y", x.rank(0, 1, false), 1);
        due("x * x, y * x", x.rank(0, 1, true), 2);
        due("y * x, y * y", x.rank(1, 1, false), 2);
        due("x * y, y * y", x.rank(1, 1, true), 1);
        due("rank of 1", x.rank(0, 0, true), 1);
        due("x xx, x yx = 0, x yy = 0", x.rank(0, 2, false), 1);
        due("y yyyyyy ..", x.rank(1, 6, false), 7);
        for (int[] none : new int[][] {{-1, 0}, {2, 0}, {0, -1}, {0, 7}, {Integer.MAX_VALUE, 0}, {0, Integer.MAX_VALUE}}) {
            due("rank", x.rank(none[0], none[1], false), -1);
            due("rank", x.rank(none[0], none[1], true), -1);
        }
        Check.read(x, OUTER);
        due("x by three letters", x.rank(0, 1, false), 2);
        due("x by three pairs", x.rank(0, 2, true), 1);
        due("all nought", x.rank(0, 3, true), 0);
    }

    /** Promise 31. */
    private static void points() {
        String[] texts = {"", "letter x;", "prime 5;" + XY + "law x x - y y;", XY + "law x y - y x;", "prime 17;" + XYZW, "prime 19;" + XYZW,
            "prime 43;" + XYZ + "law x y;", "prime 47;" + XYZ, "prime 2;" + XYZ + "law x x + y z;", "prime 7;letter x;law 3 x x x;",
            "prime 3;" + XY + "law x x + y y;", "prime 5;" + XY + "law x x + y y;law x y - y x;law x x y;", OUTER,
            "prime 17;" + XYZW + "law (x + y + z + w)(x + 2 y + 3 z - w)(x + y + z + w)(x + 2 y + 3 z - w);".repeat(8)};
        // x y = 0 with z free: (2 * 43 - 1) * 43; one of two sums is 0: 2 * 17^3 - 17^2.
        int[] points = {1, 97, 9, 9409, 83521, -2, 3655, -2, 4, 1, 1, 1, -2, 9537};
        for (int i = 0; i < texts.length; i++) {
            WordAlgebra x = told(texts[i]);
            due("points of " + texts[i], x.points(), points[i]);
            due("again", x.points(), points[i]);
        }
    }

    /** Promise 32. */
    private static void modules() {
        String dense = "law (x + y + z + w)(x + y + z + w)(x + y + z + w)(x + y + z + w);";
        String[] texts = {"", "prime 13;letter x;", "prime 17;letter x;", "prime 13;letter x;law x x;", "prime 13;letter x;law x;",
            "prime 5;letter x;law x x x x x x x;", "prime 2;" + XY + "law x y = y x;", "prime 3;" + XY + "law x y = y x;",
            "prime 5;" + XY, "prime 2;" + XYZ, "prime 2;" + XYZW, "prime 3;" + XYZ, "prime 3;" + XY + "law x;",
            "prime 2;" + XYZW + "law x;law y;law z;", "prime 2;" + XY + "law x y;", "prime 2;" + XYZW + dense.repeat(8)};
        // Pairs that commute: p^6 + p^5 - p^3; squares of which some power is 0: p^2, so many of all sums of four too.
        int[] modules = {1, 28561, -2, 169, 1, 25, 88, 945, -2, 4096, 65536, -2, 81, 16, 58, 4 * 4096};
        for (int i = 0; i < texts.length; i++) {
            WordAlgebra x = told(texts[i]);
            due("modules of " + texts[i], x.modules(), modules[i]);
            due("again", x.modules(), modules[i]);
        }
    }

    /** Promises 33 and 34. */
    private static void weights() {
        WordAlgebra x = told(OUTER);
        due("weight", x.weight(), 8);
        Check.element(x, 0, "5 + x - y z");
        due("trace", x.trace(0), 40);
        due("trace of nought", x.trace(1), 0);
        Check.element(x, 1, "20 + x y z x y");
        due("160 by 97", x.trace(1), 63);
        due("trace(6)", x.trace(6), -1);
        due("trace(-1)", x.trace(-1), -1);
        Check.read(x, PLANE);
        due("not finite", x.weight(), -2);
        due("not finite", x.trace(0), -2);
        due("not finite, none", x.trace(6), -1);
        Check.read(x, "letter x;law x x x x x x x;");
        due("1 + 6", x.weight(), 7);
        Check.read(x, XY + "law x x;law y y;law x y;law y x;to 1;");
        due("fault", x.place(), 18);
        Check.read(x, "letter x;law x x x x x x x;to 7;prime 7;");
        Check.element(x, 0, "3");
        due("21 by 7", x.trace(0), 0);
    }

    /** Promises 35 and 36. */
    private static void slots() {
        WordAlgebra x = told(PLANE);
        due("restore(0)", x.restore(0), false);
        Check.element(x, 0, "x");
        Check.element(x, 5, "y");
        due("hold(0)", x.hold(0), true);
        Check.element(x, 0, "x x");
        due("hold(2)", x.hold(2), true);
        due("slots", x.count(6), 2);
        due("hold(3)", x.hold(3), false);
        due("hold(-1)", x.hold(-1), false);
        due("restore(3)", x.restore(3), false);
        due("restore(-1)", x.restore(-1), false);
        due("restore(1)", x.restore(1), false);
        due("nothing happens", x.words(0, 1), 2000);
        due("restore(0)", x.restore(0), true);
        due("element 0", x.words(0, 1), 1000);
        due("element 5", x.words(5, 1), 1001);
        x.put(0, 0, 7);
        due("the slot stays", x.restore(0), true);
        due("the slot stays", x.words(0, 0), 1);
        due("restore(2)", x.restore(2), true);
        due("element 0", x.words(0, 1), 2000);
        due("hold(0) again", x.hold(0), true);
        due("slots", x.count(6), 2);
        Check.read(x, "letter x");
        due("a fault leaves them", x.count(6), 2);
        Check.read(x, PLANE);
        due("a text takes them", x.count(6), 0);
        due("restore(0)", x.restore(0), false);
        due("elements are nought", x.words(0, 0), 0);
    }

    /** Promise 37. */
    private static void counting() {
        WordAlgebra x = told("prime 11;" + XYZ + "law x y;law x - x;law y;law z z z = 2 z z z;to 4;");
        // Of the words y, z z z and x y the last one has y in it: the base is y and zzz.
        int[] counts = {11, 3, 4, 4, 1, 0, 0, 2, -1, -1, 2, 0, 1, 3, -1};
        for (int what = 0; what < counts.length; what++) {
            due("count(" + what + ")", x.count(what), counts[what]);
        }
        for (int what : new int[] {-1, 17, 18, 1000, Integer.MAX_VALUE, Integer.MIN_VALUE}) {
            due("count(" + what + ")", x.count(what), -1);
        }
        x.hold(1);
        due("count(6)", x.count(6), 1);
        Check.tell(x, "abc");
        due("count(5)", x.count(5), 3);
    }
}
