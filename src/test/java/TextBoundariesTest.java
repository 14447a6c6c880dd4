import java.util.ArrayList;
import java.util.List;

/** Terms I and promises 1 to 6: for each sentence that names a boundary what is just inside it and just outside it. */
public final class TextBoundariesTest {
    private static final Check CHECK = new Check("TextBoundariesTest");
    private static final String[] LETTERS = {"", "letter x;", "letter x;letter y;", "letter x;letter y;letter z;",
        "letter x;letter y;letter z;letter w;"};

    public static void main(String[] args) {
        bytesOfATape();
        textsOfTwoThousandBytes();
        blanks();
        signsOfNames();
        signsOfNumbers();
        longestTokens();
        namesThatDiffer();
        quotedWords();
        grammarOfTexts();
        grammarOfElements();
        endsOfTexts();
        rooms();
        primes();
        degrees();
        severalPrimesAndDegrees();
        longs();
        lengthsOfLaws();
        numbersAreRests();
        faultsInTheirOrder();
        faultsOfElements();
        places();
        wordsAndCodes();
        CHECK.end();
    }

    private static void due(String call, long got, long want) {
        CHECK.due(call, got, want);
    }

    /** A text's fault and its place; NONE (-1) is the place of none. */
    private static void fault(String text, int fault, int place) {
        WordAlgebra x = new WordAlgebra();
        due("read of <" + text + ">", Check.read(x, text), fault);
        due("place of <" + text + ">", x.place(), place);
        due("tape behind <" + text + ">", x.count(5), 0);
    }

    private static void good(String text) {
        fault(text, 0, -1);
    }

    private static void elementFault(String letters, String sum, int fault, int place) {
        WordAlgebra x = new WordAlgebra();
        Check.read(x, letters);
        due("element of <" + sum + ">", Check.element(x, 1, sum), fault);
        due("place of <" + sum + ">", x.place(), place);
        due("tape behind <" + sum + ">", x.count(5), 0);
    }

    /** "Twenty bytes .. NONE, and nothing comes, if it would have more than 2,000"; "NONE .. if it has not so many, or n is below 0". */
    private static void bytesOfATape() {
        for (int bytes = 1975; bytes <= 2000; bytes++) {
            WordAlgebra x = new WordAlgebra();
            for (int fed = 20; fed <= 2000; fed += 20) {
                due("feed", x.feed(0, 0, 0, 0, 0), fed);
            }
            due("back to " + bytes, x.back(2000 - bytes), bytes);
            due("feed at " + bytes, x.feed(0, 0, 0, 0, 0), bytes <= 1980 ? bytes + 20 : -1);
            int now = bytes <= 1980 ? bytes + 20 : bytes;
            due("bytes", x.count(5), now);
            due("back by one too many", x.back(now + 1), -1);
            due("back below 0", x.back(-1), -1);
            due("back by 0", x.back(0), now);
            due("back by all", x.back(now), 0);
            due("back, empty", x.back(1), -1);
            due("back by 0, empty", x.back(0), 0);
        }
    }

    /** "A TEXT has 2,000 bytes at most": the last one counts, and the text's end is its length. */
    private static void textsOfTwoThousandBytes() {
        String text = "letter x;law x x;" + " ".repeat(1976) + "to 3;";
        due("its length", text.length() + 2, 2000);
        good("  " + text);
        fault("   " + text.substring(0, text.length() - 1), 1, 2000);
        fault("  " + text.substring(0, text.length() - 1) + "=", 1, 1999);
        fault(" ".repeat(1999) + ".", 1, 1999);
        fault(" ".repeat(1996) + "to 9", 1, 2000);
        good(" ".repeat(2000));
        elementFault("", " ".repeat(2000), 1, 2000);
        elementFault("", " ".repeat(1999) + "1", 0, -1);
        elementFault("letter x;", " ".repeat(1999) + "y", 4, 1999);
    }

    private static boolean isBlank(int b) {
        return b == 9 || b == 10 || b == 13 || b == 32;
    }

    /** "blanks (9, 10, 13, 32)": each of all bytes between two TOKENS. */
    private static void blanks() {
        for (int b = 0; b < 256; b++) {
            String text = "letter" + (char) b + "q;";
            if (isBlank(b)) {
                good(text);
                good((char) b + "letter q" + (char) b + ";" + (char) b);
            } else {
                // A letter there makes one name of eight letters of it.
                fault(text, 1, b >= 'a' && b <= 'z' ? 0 : 6);
            }
        }
    }

    /** "NAMES (letters a .. z": each of all bytes as a NAME; what is no TOKEN is a fault of its own place. */
    private static void signsOfNames() {
        for (int b = 0; b < 256; b++) {
            boolean isName = b >= 'a' && b <= 'z';
            fault("letter " + (char) b + ";", isName ? 0 : 1, isName ? -1 : isBlank(b) ? 8 : 7);
            fault("letter q" + (char) b + ";", isName || isBlank(b) ? 0 : 1, isName || isBlank(b) ? -1 : b == ';' ? 9 : 8);
        }
    }

    /** "INTS (1 to 4 digits)", "a degree not 1 .. 7": each of all bytes as a degree; as an ELEMENT alone. */
    private static void signsOfNumbers() {
        for (int b = 0; b < 256; b++) {
            boolean isDigit = b >= '0' && b <= '9';
            boolean isDegree = b >= '1' && b <= '7';
            int fault = isDegree ? 0 : isDigit ? 5 : 1;
            fault("to " + (char) b + ";", fault, isDegree ? -1 : isBlank(b) ? 4 : 3);
            boolean known = b == 'a' || b == 'z';
            boolean isName = b >= 'a' && b <= 'z';
            boolean goesOn = isBlank(b) || b == '-' || b == '(';
            int ofSum = isDigit || known ? 0 : isName ? 4 : 1;
            elementFault("letter a;letter z;", String.valueOf((char) b), ofSum, ofSum == 0 ? -1 : goesOn ? 1 : 0);
        }
    }

    /** "TOKENS, the longest that can be", "8 at most", "1 to 4 digits", "A longer one .. is no TOKEN". */
    private static void longestTokens() {
        for (int n = 1; n <= 12; n++) {
            String name = "abcdefghijkl".substring(0, n);
            fault("letter " + name + ";", n <= 8 ? 0 : 1, n <= 8 ? -1 : 7);
            String number = "000000000005".substring(12 - n);
            fault("to " + number + ";", n <= 4 ? 0 : 1, n <= 4 ? -1 : 3);
            elementFault("", number, n <= 4 ? 0 : 1, n <= 4 ? -1 : 0);
        }
        good("letter abcdefgh;letter abcdefgi;letter bbcdefgh;letter abcdefg;");
        good("letter a;letter aa;letter aaa;letter z;law a aa = aaa z;");
        fault("letter a;law aa;", 4, 13);
        good("to1;prime5;letter x;law2x;");
        good("letter x;law 2x(x)x;");
        fault("letter x;law x2;", 1, 14);
        fault("letterx;", 1, 0);
        fault("tox;", 1, 0);
        fault("letter x;law12345x;", 1, 12);
        fault("letter x;law 1 2345 x;", 1, 15);
        fault("letter x;lawx;", 1, 9);
        fault("to 1 2;", 1, 5);
        fault("pri me 5;", 1, 0);
        WordAlgebra x = new WordAlgebra();
        Check.read(x, "letter a;letter ab;");
        due("ab is one NAME", Check.element(x, 0, "ab a b"), 4);
        due("b is none", x.place(), 5);
        due("ab a", Check.element(x, 0, "ab a"), 0);
        due("its number", x.counts(0, 2002), 1);
    }

    /** NAMES that differ in any one letter, and by another one in the next, are two LETTERS; the same is TWICE. */
    private static void namesThatDiffer() {
        WordAlgebra x = new WordAlgebra();
        for (char first = 'a'; first <= 'z'; first++) {
            for (char second = 'a'; second <= 'z'; second++) {
                String name = "" + first + second + "q";
                due("a and " + name, Check.read(x, "letter a;letter " + name + ";"), 0);
                due(name + " twice", Check.read(x, "letter a;letter " + name + ";letter " + name + ";"), 3);
                for (char other = 'a'; other <= 'z' && first < 'z'; other++) {
                    String next = "" + (char) (first + 1) + other + "q";
                    Check.tell(x, "letter " + name + ";letter " + next + ";");
                    due(name + " and " + next, x.read(), 0);
                }
            }
        }
        String most = "zzzzzzzz";
        for (int i = 0; i < 8; i++) {
            String other = most.substring(0, i) + "y" + most.substring(i + 1);
            fault("letter " + most + ";letter " + other + ";", 0, -1);
            fault("letter " + most + ";letter " + other + ";letter " + other + ";", 3, 39);
            fault("letter " + most + ";law " + other + ";", 4, 20);
        }
    }

    /** "none of the words in quotes". */
    private static void quotedWords() {
        for (String word : new String[] {"prime", "letter", "to", "law"}) {
            fault("letter " + word + ";", 1, 7);
            fault("letter x;law x " + word + ";", 1, 15);
            elementFault("letter x;", "x " + word, 1, 2);
            String longer = word + "s";
            String shorter = word.substring(0, word.length() - 1);
            String turned = new StringBuilder(word).reverse().toString();
            good("letter " + longer + ";letter " + shorter + ";letter " + turned + ";law " + longer + " " + shorter + ";");
        }
    }

    private static final String[] TOKENS = {"prime", "letter", "to", "law", "x", "5", ";", "=", "+", "-", "(", ")", ".", "abcdefghi", "12345", "X"};

    /** Of each token whether some text goes on with it behind the one ahead: all others are SYNTAX at their place. */
    private static void goesOn(boolean asSum, String ahead, String... good) {
        for (String token : TOKENS) {
            String text = (asSum ? "" : "letter x;") + ahead + " " + token;
            int at = text.length() - token.length();
            WordAlgebra x = new WordAlgebra();
            Check.read(x, asSum ? "letter x;" : "");
            int fault = asSum ? Check.element(x, 0, text) : Check.read(x, text);
            boolean syntaxThere = fault == 1 && x.place() == at;
            due("<" + token + "> behind <" + ahead + "> is SYNTAX at its place", syntaxThere ? 1 : 0, List.of(good).contains(token) ? 0 : 1);
        }
    }

    /** The grammar, from each of its places. */
    private static void grammarOfTexts() {
        for (String ahead : new String[] {"", "prime 5;", "to 5;", "letter z;", "law x;", "law x = x;"}) {
            goesOn(false, ahead, "prime", "letter", "to", "law");
        }
        goesOn(false, "prime", "5");
        goesOn(false, "to", "5");
        goesOn(false, "letter", "x");
        for (String ahead : new String[] {"prime 5", "to 5", "letter z"}) {
            goesOn(false, ahead, ";");
        }
        for (String ahead : new String[] {"law", "law x =", "law (x) =", "law -x =", "law (", "law x (", "law 5 (", "law ((", "law x = ("}) {
            goesOn(false, ahead, "-", "x", "5", "(");
        }
        for (String ahead : new String[] {"law -", "law x +", "law x -", "law (x +", "law (-", "law x = -", "law x = x -", "law 5 +"}) {
            goesOn(false, ahead, "x", "5", "(");
        }
        for (String ahead : new String[] {"law x", "law 5", "law 5 x", "law (x)", "law ((x))", "law -x", "law x + 5", "law x(x)x"}) {
            goesOn(false, ahead, "x", "(", "+", "-", "=", ";");
        }
        for (String ahead : new String[] {"law x = x", "law x = 5", "law x = (x)", "law x = -x", "law x = x + (5)"}) {
            goesOn(false, ahead, "x", "(", "+", "-", ";");
        }
        for (String ahead : new String[] {"law (x", "law (5", "law ((x)", "law x = (x", "law (x - 5", "law x (x x", "law (x(x)"}) {
            goesOn(false, ahead, "x", "(", "+", "-", ")");
        }
    }

    /** An ELEMENT's tape "is an S": the same, but that neither = nor ; ends it. */
    private static void grammarOfElements() {
        for (String ahead : new String[] {"", "(", "x (", "5 (", "x + ("}) {
            goesOn(true, ahead, "-", "x", "5", "(");
        }
        for (String ahead : new String[] {"-", "x +", "x -", "(x +", "(-"}) {
            goesOn(true, ahead, "x", "5", "(");
        }
        for (String ahead : new String[] {"x", "5", "(x)", "-5", "x + x", "x(5)"}) {
            goesOn(true, ahead, "x", "(", "+", "-");
        }
        for (String ahead : new String[] {"(x", "(5", "((x)", "x(-x"}) {
            goesOn(true, ahead, "x", "(", "+", "-", ")");
        }
    }

    /** "the text's end: its length": a text cut anywhere between two TOKENS, with blanks behind it or not. */
    private static void endsOfTexts() {
        String[] tokens = "letter x ; prime 5 ; to 3 ; law - 2 x ( x + ( 3 - x ) x ) - x = x x ; law x ;".split(" ");
        StringBuilder text = new StringBuilder();
        for (int i = 0; i <= tokens.length; i++) {
            boolean whole = i == 0 || tokens[i - 1].equals(";");
            // What is whole is not all of one length in its law: that fault is told behind all SYNTAX.
            int laws = text.indexOf("law");
            int fault = !whole ? 1 : laws >= 0 ? 7 : 0;
            fault(text.toString(), fault, fault == 1 ? text.length() : fault == 7 ? laws : -1);
            fault(text + " \t\r\n", fault, fault == 1 ? text.length() + 4 : fault == 7 ? laws : -1);
            text.append(i < tokens.length ? tokens[i] + " " : "");
        }
        String[] sum = "- 2 x ( x + 3 ) - x".split(" ");
        int[] whole = {0, 0, 1, 1, 0, 0, 0, 0, 1, 0, 1};
        text = new StringBuilder();
        for (int i = 0; i < whole.length; i++) {
            elementFault("letter x;", text.toString(), 1 - whole[i], whole[i] == 1 ? -1 : text.length());
            text.append(i < sum.length ? sum[i] + " " : "");
        }
    }

    /** "ROOM: a 401st TOKEN; a 5th letter, a 9th law (at its first TOKEN); a 5th ( within one another (at it)". */
    private static void rooms() {
        // Beside 3 and 1 TOKENS for each T more: 9 + 3 is the first T's place.
        for (int terms = 194; terms <= 199; terms++) {
            String text = "letter x;law x" + "+x".repeat(terms - 1) + ";";
            int tokens = 3 + 1 + 2 * terms - 1 + 1;
            boolean inside = tokens <= 400;
            // The 401st TOKEN is told even where the text would be at its end with it.
            fault(text, inside ? 0 : 2, inside ? -1 : 9 + 4 + 401 - 3 - 1 - 1);
        }
        for (int terms = 198; terms <= 202; terms++) {
            String sum = "x" + "-x".repeat(terms - 1);
            boolean inside = 2 * terms - 1 <= 400;
            elementFault("letter x;", sum, inside ? 0 : 2, inside ? -1 : 400);
        }
        good("letter a;letter b;letter c;letter d;");
        fault("letter a;letter b;letter c;letter d;letter e;", 2, 36);
        fault("letter a;letter b;letter c;letter d;letter", 2, 36);
        fault("letter a;letter b;letter c;letter d;letter a;", 2, 36);
        fault("letter a;letter a;letter a;letter a;letter a;", 2, 36);
        for (int laws = 7; laws <= 10; laws++) {
            fault("letter x;" + "law x;".repeat(laws), laws <= 8 ? 0 : 2, laws <= 8 ? -1 : 57);
            fault("law 0;".repeat(laws) + "law", laws < 8 ? 1 : 2, laws < 8 ? 6 * laws + 3 : 48);
        }
        for (int depth = 1; depth <= 6; depth++) {
            String sum = "(".repeat(depth) + "x" + ")".repeat(depth);
            fault("letter x;law " + sum + sum + ";", depth <= 4 ? 0 : 2, depth <= 4 ? -1 : 17);
            fault("letter x;law x = " + sum + ";", depth <= 4 ? 0 : 2, depth <= 4 ? -1 : 21);
            elementFault("letter x;", sum + "-" + sum, depth <= 4 ? 0 : 2, depth <= 4 ? -1 : 4);
            elementFault("letter x;", "(".repeat(depth), depth <= 4 ? 1 : 2, depth <= 4 ? depth : 4);
        }
        good("letter x;law (x)" + "+(x)".repeat(40) + ";");
        good("letter x;law ((((x)-x)+(x))-(((x))))-((((x)))) = ((((x))));");
        fault("letter x;law ((((x)-x)+(x))-(((x)(x)(-(x)))));", 2, 38);
    }

    private static final List<Integer> PRIMES = List.of(2, 3, 5, 7, 11, 13, 17, 19, 23, 29, 31, 37, 41, 43, 47, 53, 59, 61, 67, 71,
            73, 79, 83, 89, 97);

    /** "THE PRIME: 2 .. 97 (97 if not told)", "no prime up to 97". */
    private static void primes() {
        for (int n = 0; n <= 9999; n += n < 130 ? 1 : 617) {
            for (String zeros : n < 100 ? new String[] {"", "00"} : new String[] {""}) {
                WordAlgebra x = new WordAlgebra();
                boolean isPrime = PRIMES.contains(n);
                due("prime " + zeros + n, Check.read(x, "prime " + zeros + n + ";"), isPrime ? 0 : 5);
                due("place of prime " + zeros + n, x.place(), isPrime ? -1 : 6);
                due("count(0) behind prime " + zeros + n, x.count(0), isPrime ? n : 97);
            }
        }
        for (int most : new int[] {9409, 9973, 9999}) {
            fault("prime " + most + ";", 5, 6);
        }
        WordAlgebra x = new WordAlgebra();
        Check.read(x, "prime 2;");
        Check.read(x, "to 3;");
        due("97 if not told", x.count(0), 97);
    }

    /** "words of that many letters must be no more than 256 in all"; "if not told the greatest that will do". */
    private static void degrees() {
        int[] greatest = {7, 7, 7, 5, 4};
        for (int letters = 0; letters <= 4; letters++) {
            WordAlgebra x = new WordAlgebra();
            Check.read(x, LETTERS[letters]);
            due("degree of " + letters + " letters", x.count(2), greatest[letters]);
            due("words of it", x.size(greatest[letters]), (long) Math.pow(letters, greatest[letters]));
            due("no degree behind it", x.size(greatest[letters] + 1), -1);
            for (int to = 0; to <= 9; to++) {
                int fault = to < 1 || to > 7 ? 5 : to > greatest[letters] ? 6 : 0;
                int place = fault == 0 ? -1 : LETTERS[letters].length() + 3;
                fault(LETTERS[letters] + "to " + to + ";", fault, place);
                fault("to " + to + ";" + LETTERS[letters], fault, fault == 0 ? -1 : 3);
                Check.read(x, LETTERS[letters] + "to " + to + ";");
                due("degree told", fault == 0 ? x.count(2) : to, to);
            }
        }
        fault("to 9999;", 5, 3);
        fault("to 10;", 5, 3);
    }

    /** "of several primes, degrees the last one told". */
    private static void severalPrimesAndDegrees() {
        WordAlgebra x = new WordAlgebra();
        due("several", Check.read(x, "prime 7;to 2;prime 11;to 5;letter x;prime 3;to 4;"), 0);
        due("the last prime", x.count(0), 3);
        due("the last degree", x.count(2), 4);
        fault("prime 7;prime 8;prime 9;", 5, 14);
        fault("to 7;to 0;to 8;", 5, 8);
        // Only the last one is asked whether there are too many words.
        good(LETTERS[4] + "to 7;to 5;to 4;");
        fault(LETTERS[4] + "to 4;to 7;to 5;", 6, 49);
        // The last prime told makes rests of the laws ahead of it too.
        fault("letter x;law 5 x x + x;prime 7;", 7, 9);
        good("letter x;law 5 x x + x;prime 7;prime 5;");
        fault("letter x;law 5 x x + x;prime 5;prime 7;", 7, 9);
    }

    /** LONG: for each way to write so many letters whether they are above THE DEGREE. */
    private static void longs() {
        String[] long3 = {"x x x", "2 x x x", "x(x x)", "(x)(x)(x)", "((((x))))x x", "(x + x)(x - x)(0 x)", "x x(x - 5)", "0 x x x",
            "97(x x x)", "(x + 1)(x x - 1)", "1 + x x x", "x x x - 1", "-x x x", "x + x x + x x x", "(1 + x)(1 + x)(1 + x)", "((x)x)x",
            "x(x(x))", "(1)(x)(1)(x)(1)(x)", "(x x x - x x x)(0)", "3(2 - x(1 - x(1 - x)))", "(x - x x)(x) + x", "x x x - x x x"};
        for (String sum : long3) {
            elementFault("letter x;to 3;", sum, 0, -1);
            elementFault("letter x;to 2;", sum, 7, 0);
            elementFault("letter x;to 2;", "  " + sum, 7, 0);
            if (!sum.startsWith("((((")) {
                elementFault("letter x;to 3;", "(" + sum + ")x", 7, 0);
                elementFault("letter x;to 4;", "(" + sum + ")x", 0, -1);
            }
            // Each of these less itself is nought, which a LAW may be.
            fault("letter x;to 3;law " + sum + " = " + sum + ";", 0, -1);
            fault("letter x;to 2;law " + sum + " = " + sum + ";", 7, 14);
            fault("letter x;to 2;law x = " + sum + ";", 7, 14);
            fault("letter x;to 2;law " + sum + " = x;", 7, 14);
        }
        elementFault("to 1;", "5", 0, -1);
        elementFault("letter x;to 1;", "(2)(3)x", 0, -1);
        elementFault("letter x;to 1;", "(2)(3)x x", 7, 0);
        elementFault("letter x;", "x x x x x x x", 0, -1);
        elementFault("letter x;", "x x x x x x x x", 7, 0);
    }

    /** "A LAW must have all its words of one length from 1 on (a LAW that is nought may be)". */
    private static void lengthsOfLaws() {
        String[] laws = {"x", "y y", "x x - x", "x = y", "x = x y", "1", "0", "1 = 1", "1 = 2", "x + 1", "x + 1 = 1", "97 + x", "98 + x",
            "x x x x x x x", "x y - y x", "(x + 1)(x - 1)", "(x + 1)(x - 1) + 1", "x - x", "x(1 - 1)", "97 x + x x", "96 x + x x", "2 x + 95 x",
            "(x + y)(x - y) = x x - y y", "x x x = x x - x x", "x x x - x x = x x x"};
        int[] faults = {0, 0, 7, 0, 7, 7, 0, 0, 7, 7, 0, 0, 7, 0, 0, 7, 0, 0, 0, 0, 7, 0, 0, 0, 0};
        int[] lengths = {1, 2, -1, 1, -1, -1, 0, 0, -1, -1, 1, 1, -1, 7, 2, -1, 2, 0, 0, 2, -1, 0, 2, 3, 2};
        for (int i = 0; i < laws.length; i++) {
            WordAlgebra x = new WordAlgebra();
            due("law " + laws[i], Check.read(x, LETTERS[2] + "law " + laws[i] + ";"), faults[i]);
            due("place of law " + laws[i], x.place(), faults[i] == 0 ? -1 : 18);
            due("length of law " + laws[i], x.count(10), lengths[i]);
            due("nought: law " + laws[i], x.count(4), lengths[i] == 0 ? 1 : 0);
        }
        fault(LETTERS[2] + "law x;law 0;law y y;law x + y y;law 1;", 7, 38);
        good("law 0;law 97;law 5 - 5;law 3 = 3;");
        fault("law 0;law 5 - 6;", 7, 6);
    }

    /** "All numbers are rests by THE PRIME." */
    private static void numbersAreRests() {
        for (int prime : new int[] {2, 3, 97}) {
            WordAlgebra x = new WordAlgebra();
            Check.read(x, "prime " + prime + ";letter x;");
            for (int n : new int[] {0, 1, prime - 1, prime, prime + 1, 9999, 9999 - 9999 % prime}) {
                Check.element(x, 0, n + " x - " + n);
                due(n + " by " + prime, x.counts(0, 1000), n % prime);
                due("-" + n + " by " + prime, x.counts(0, 0), (prime - n % prime) % prime);
                due("words", x.words(0, 0), n % prime == 0 ? 0 : 2);
            }
            Check.element(x, 1, "9999(9999(9999(9999 x)))");
            long rest = 9999 % prime;
            due("a product of four", x.counts(1, 1000), rest * rest % prime * rest % prime * rest % prime);
        }
    }

    private record Part(String text, int fault, int place) {
        int stage() {
            return fault <= 2 ? 1 : fault <= 5 ? 2 : fault;
        }
    }

    /** "the first by its place .. If there is none .. If there is none": all faults in all orders, two and three in a text. */
    private static void faultsInTheirOrder() {
        List<Part> parts = List.of(new Part("prime x; ", 1, 6), new Part("law (((((x))))); ", 2, 8), new Part("letter x; ", 3, 7),
                new Part("law x q; ", 4, 6), new Part("prime 4; ", 5, 6), new Part("to 9; ", 5, 3),
                new Part("letter y;letter z;to 6; ", 6, 21), new Part("law x + x x; ", 7, 0), new Part("law x x = x; ", 7, 0));
        List<Part> three = new ArrayList<>();
        for (Part a : parts) {
            for (Part b : parts) {
                for (Part c : parts) {
                    if (a != b && a != c && b != c) {
                        three.clear();
                        three.addAll(List.of(a, b, c));
                        firstOf(three);
                    }
                }
                if (a != b) {
                    firstOf(List.of(a, b));
                }
            }
            firstOf(List.of(a));
        }
        // Of one place the least: the 401st TOKEN that no text goes on with, the text's end.
        String most = "letter x;" + "to 7;".repeat(131) + "law - x;";
        fault(most + ";", 1, most.length());
        fault(most + "law", 2, most.length());
        fault(most, 0, -1);
    }

    private static void firstOf(List<Part> parts) {
        StringBuilder text = new StringBuilder("letter x; ");
        int fault = 0;
        int stage = 9;
        int place = -1;
        for (Part part : parts) {
            if (part.stage() < stage) {
                fault = part.fault();
                stage = part.stage();
                place = text.length() + part.place();
            }
            text.append(part.text());
        }
        fault(text.toString(), fault, place);
    }

    /** "(FAULTS 1, 2 and 4 likewise; if there is none of these 7, at place 0". */
    private static void faultsOfElements() {
        elementFault("letter x;", "q + (((((x)))))", 2, 8);
        elementFault("letter x;", "q + ;", 1, 4);
        elementFault("letter x;", "q (((((", 2, 6);
        elementFault("letter x;", "x ; (((((", 1, 2);
        elementFault("letter x;", "(((((;", 2, 4);
        elementFault("letter x;", "x q r", 4, 2);
        elementFault("letter x;to 1;", "x x x q", 4, 6);
        elementFault("letter x;to 1;", "x x x (", 1, 7);
        elementFault("letter x;to 1;", "x x x", 7, 0);
        elementFault("letter x;to 1;", " x ", 0, -1);
        elementFault("", "x", 4, 0);
        elementFault("", "(1 - 2)(3)", 0, -1);
        WordAlgebra x = new WordAlgebra();
        Check.read(x, "letter x;");
        Check.read(x, "letter y;letter y;");
        due("the letters of a text with a fault are none", Check.element(x, 0, "y"), 4);
        due("those ahead are", Check.element(x, 0, "x"), 0);
    }

    /** "The byte of the latest read()'s or element()'s FAULT; NONE without": other calls leave it. */
    private static void places() {
        WordAlgebra x = new WordAlgebra();
        due("new", x.place(), -1);
        Check.read(x, "letter x;prime 4;");
        due("of a read", x.place(), 15);
        x.feed(0x78202020, 0x20202020, 0x20202020, 0x20202020, 0x20202020);
        x.back(20);
        x.put(0, 0, 1);
        x.hold(0);
        x.restore(0);
        due("other calls leave it", x.place(), 15);
        due("element of <1>", Check.element(x, 0, "1"), 0);
        due("none is left", x.place(), -1);
        Check.element(x, 0, "1 1");
        due("of an element", x.place(), 2);
        due("no such element", x.element(6), -1);
        due("nothing is read then", x.place(), 2);
        due("an empty text", x.read(), 0);
        due("none is left", x.place(), -1);
        x.element(0);
        due("a fault at 0", x.place(), 0);
    }

    /** "WORDS of d letters are numbered from 0 on .. as a code: 1000 * d + that number; the empty word is 0". */
    private static void wordsAndCodes() {
        for (int letters = 0; letters <= 4; letters++) {
            WordAlgebra x = new WordAlgebra();
            Check.read(x, LETTERS[letters]);
            int degree = x.count(2);
            int[] edges = {-1, 0, 1, 2, 3, 4, 15, 16, 63, 64, 127, 128, 242, 243, 255, 256, 999};
            for (int d = -1; d <= 8; d++) {
                for (int number : edges) {
                    int code = 1000 * d + number;
                    // Of a number below 0 or above 999 the code is another word's.
                    boolean is = number >= 0 && d >= 0 && d <= degree && number < Math.pow(letters, d);
                    boolean other = number < 0 && d > 1 && d - 1 <= degree && 999 < Math.pow(letters, d - 1);
                    due("counts(0, " + code + ") of " + letters, x.counts(0, code), is || other ? 0 : -1);
                    due("put(0, " + code + ") of " + letters, x.put(0, code, 0) ? 1 : 0, is || other ? 1 : 0);
                }
            }
        }
        WordAlgebra x = new WordAlgebra();
        Check.read(x, LETTERS[3]);
        String[] sums = {"1", "x", "y", "z", "x x", "x z", "z x", "z z", "y z x", "z z z z z"};
        int[] codes = {0, 1000, 1001, 1002, 2000, 2002, 2006, 2008, 3015, 5242};
        for (int i = 0; i < sums.length; i++) {
            Check.element(x, 0, sums[i]);
            due("code of " + sums[i], x.words(0, 1), codes[i]);
            due(sums[i] + " counts", x.counts(0, codes[i]), 1);
        }
        // "the longer one, of one length that of the greater number is the greater"
        String[] greatest = {"z z + x x x", "x z + z x", "y + 1", "x x x x x + z z z z", "z z y + z z z"};
        int[] greatestCodes = {3000, 2006, 1001, 5000, 3026};
        for (int i = 0; i < greatest.length; i++) {
            Check.element(x, 0, greatest[i]);
            due("greatest of " + greatest[i], x.words(0, 1), greatestCodes[i]);
        }
    }
}
