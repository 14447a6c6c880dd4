import java.util.Arrays;

/**
 * Algebras of words that keep their places, told as texts: letters, and laws of one length each over the rests of a
 * prime. The public methods only look at what they are given; the work is done by the classes inside.
 */
public final class WordAlgebra {
    public static final int NONE = -1;

    private static final int NOT_TOLD = -2;
    private static final int NOT_QUADRATIC = -3;
    private static final int UNKNOWN = -9;
    private static final long NO_SERIES = -9223372036854775807L;
    private static final long MOST_TOLD = 9223372036854775807L;

    private static final int MOST_LETTERS = 4;
    private static final int MOST_LAWS = 8;
    private static final int LONGEST = 7;
    /** Words of one length. */
    private static final int MOST_WORDS = 256;
    /** Words of all lengths: most for three letters up to five: 1 + 3 + 9 + 27 + 81 + 243. */
    private static final int ROW = 364;
    private static final int GREATEST_PRIME = 97;

    private static final int SYNTAX = 1;
    private static final int ROOM = 2;
    private static final int TWICE = 3;
    private static final int NAME_FAULT = 4;
    private static final int WRONG = 5;
    private static final int MANY = 6;
    private static final int LENGTHS = 7;

    private static final int POINT_WAYS = 100000;
    private static final int MODULE_WAYS = 65536;

    private final Tape tape = new Tape();
    private final Tokens tokens = new Tokens();
    private final Sums sums = new Sums();
    private final Telling telling = new Telling(sums);
    private final Shape shape = new Shape();
    private final long[] names = new long[MOST_LETTERS];
    private final Nought nought = new Nought(shape);
    private final Machine machine = new Machine(shape, nought);
    private final Ranks ranks = new Ranks(shape, nought);
    private final Mirror mirror = new Mirror(shape, nought);
    private final Squares squares = new Squares(shape, nought);
    private final Elements elements = new Elements(shape, nought);
    private int faultPlace = NONE;
    private int pointsKnown = UNKNOWN;
    private int modulesKnown = UNKNOWN;

    /** All fields stand as they would behind an empty text. */
    public WordAlgebra() {
    }

    public int feed(int a, int b, int c, int d, int e) {
        if (!tape.hasRoomFor(20)) {
            return NONE;
        }
        tape.append(a);
        tape.append(b);
        tape.append(c);
        tape.append(d);
        tape.append(e);
        return tape.bytesNow();
    }

    public int back(int n) {
        return tape.drop(n) ? tape.bytesNow() : NONE;
    }

    public int read() {
        int fault = tokens.take(tape, false);
        faultPlace = tokens.faultPlace();
        if (fault == 0) {
            fault = telling.understand(tokens);
            faultPlace = telling.faultPlace();
        }
        tape.clear();
        if (fault == 0) {
            takeUpTheText();
        }
        return fault;
    }

    private void takeUpTheText() {
        Shape told = telling.shapeTold();
        shape.become(told.lettersTold(), told.longest(), told.modulus());
        System.arraycopy(telling.namesTold(), 0, names, 0, MOST_LETTERS);
        nought.forget();
        for (int law = 0; law < telling.lawsTold(); law++) {
            nought.takeLaw(telling.lawAt(law), telling.lawLength(law));
        }
        mirror.forget();
        elements.forget();
        pointsKnown = UNKNOWN;
        modulesKnown = UNKNOWN;
    }

    public int element(int e) {
        if (!elements.has(e)) {
            return NONE;
        }
        int fault = tokens.take(tape, true);
        faultPlace = tokens.faultPlace();
        tape.clear();
        if (fault != 0) {
            return fault;
        }
        int unknown = tokens.resolveAll(names, shape.lettersTold());
        if (unknown != NONE) {
            faultPlace = tokens.placeAt(unknown);
            return NAME_FAULT;
        }
        if (sums.longOf(tokens, 0) > shape.longest()) {
            faultPlace = 0;
            return LENGTHS;
        }
        sums.multiplyOut(tokens, 0, shape);
        elements.become(e, sums.result());
        return 0;
    }

    public int place() {
        return faultPlace;
    }

    public int counts(int e, int word) {
        int at = shape.indexOf(word);
        return elements.has(e) && at != NONE ? elements.coefficient(e, at) : NONE;
    }

    public int words(int e, int what) {
        if (!elements.has(e) || what < 0 || what > 1) {
            return NONE;
        }
        return what == 0 ? elements.amountOf(e) : elements.greatestOf(e);
    }

    public boolean put(int e, int word, int c) {
        int at = shape.indexOf(word);
        if (!elements.has(e) || at == NONE) {
            return false;
        }
        elements.set(e, at, c);
        return true;
    }

    public boolean add(int to, int a, int b, int c) {
        if (!elements.has(to) || !elements.has(a) || !elements.has(b)) {
            return false;
        }
        elements.combine(to, a, b, c);
        return true;
    }

    public int multiply(int to, int a, int b) {
        return product(to, a, b, false);
    }

    public int commute(int to, int a, int b) {
        return product(to, a, b, true);
    }

    private int product(int to, int a, int b, boolean lessTurned) {
        if (!elements.has(to) || !elements.has(a) || !elements.has(b)) {
            return NONE;
        }
        return elements.multiplyInto(to, a, b, lessTurned) ? 0 : NOT_TOLD;
    }

    public int plain(int e) {
        if (!elements.has(e)) {
            return NONE;
        }
        nought.reach(shape.longest());
        elements.makePlain(e);
        return elements.amountOf(e);
    }

    public int power(int e) {
        nought.reach(shape.longest());
        return elements.has(e) ? elements.leastPower(e) : NONE;
    }

    public int alike(int a, int b) {
        if (!elements.has(a) || !elements.has(b)) {
            return NONE;
        }
        nought.reach(shape.longest());
        return elements.differByNought(a, b) ? 1 : 0;
    }

    public int size(int d) {
        return nought.reach(d) ? nought.sizeOf(d) : NONE;
    }

    public int normal(int d, int i) {
        return nought.reach(d) ? nought.normalAt(d, i) : NONE;
    }

    public int form(int word, int other) {
        int what = shape.indexOf(word);
        int of = shape.indexOf(other);
        if (what == NONE || of == NONE) {
            return NONE;
        }
        int d = shape.lengthAt(of);
        nought.reach(d);
        return shape.lengthAt(what) == d ? nought.formOf(d, shape.numberAt(of), shape.numberAt(what)) : 0;
    }

    public int table(int u, int v, int w) {
        int left = shape.indexOf(u);
        int right = shape.indexOf(v);
        int what = shape.indexOf(w);
        if (left == NONE || right == NONE || what == NONE) {
            return NONE;
        }
        int behind = shape.lengthAt(right);
        int d = shape.lengthAt(left) + behind;
        if (!nought.reach(d)) {
            return NOT_TOLD;
        }
        int both = shape.join(shape.numberAt(left), shape.numberAt(right), behind);
        return shape.lengthAt(what) == d ? nought.formOf(d, both, shape.numberAt(what)) : 0;
    }

    public int base(int d) {
        return nought.reach(d) ? nought.basisOf(d) : NONE;
    }

    public int baseAt(int d, int i) {
        return nought.reach(d) ? nought.basisAt(d, i) : NONE;
    }

    public boolean closed() {
        nought.reach(shape.longest());
        return machine.isClosed();
    }

    public long left(int n) {
        nought.reach(shape.longest());
        return n >= 0 && n <= 60 ? machine.leftOf(n) : -1L;
    }

    public int growth() {
        nought.reach(shape.longest());
        return machine.growthOfLeft();
    }

    public int chains(int n, int d) {
        return n >= 0 && n <= 4 && nought.reach(d) ? machine.chainsOf(n, d) : NONE;
    }

    public int dual(int d) {
        if (!shape.hasDegree(d)) {
            return NONE;
        }
        if (!nought.isQuadratic()) {
            return NOT_TOLD;
        }
        mirror.reach(d);
        return mirror.sizeOf(d);
    }

    public int bent() {
        if (!nought.isQuadratic()) {
            return NOT_QUADRATIC;
        }
        nought.reach(shape.longest());
        mirror.reach(shape.longest());
        int d = mirror.firstBend();
        return d == NONE ? NOT_TOLD : d;
    }

    public long inverse(int d) {
        return nought.reach(d) ? nought.inverseOf(d) : NO_SERIES;
    }

    public int centre(int d) {
        return shape.hasDegree(d) && nought.reach(d + 1) ? ranks.centreOf(d) : NONE;
    }

    public int rank(int letter, int d, boolean right) {
        boolean hasLetter = letter >= 0 && letter < shape.lettersTold();
        return hasLetter && shape.hasDegree(d) && nought.reach(d + 1) ? ranks.rankOf(letter, d, right) : NONE;
    }

    public int points() {
        if (pointsKnown == UNKNOWN) {
            pointsKnown = squares.waysOf(1, POINT_WAYS);
        }
        return pointsKnown;
    }

    public int modules() {
        if (modulesKnown == UNKNOWN) {
            modulesKnown = squares.waysOf(2, MODULE_WAYS);
        }
        return modulesKnown;
    }

    public int weight() {
        nought.reach(shape.longest());
        int all = nought.sumOfSizes();
        return all == NONE ? NOT_TOLD : all;
    }

    public int trace(int e) {
        if (!elements.has(e)) {
            return NONE;
        }
        nought.reach(shape.longest());
        int all = nought.sumOfSizes();
        // A factor of one letter or more makes words longer, so that only the empty word brings each word back.
        return all == NONE ? NOT_TOLD : shape.rest(all * elements.coefficient(e, 0));
    }

    public boolean hold(int slot) {
        return elements.keep(slot);
    }

    public boolean restore(int slot) {
        return elements.takeBack(slot);
    }

    public int count(int what) {
        switch (what) {
            case 0:
                return shape.modulus();
            case 1:
                return shape.lettersTold();
            case 2:
                return shape.longest();
            case 3:
                return nought.lawsNow();
            case 4:
                return nought.noughtLaws();
            case 5:
                return tape.bytesNow();
            case 6:
                return elements.slotsKept();
            case 7:
                nought.reach(shape.longest());
                return nought.basisInAll();
            default:
                return what >= 10 && what - 10 < nought.lawsNow() ? nought.lawLength(what - 10) : NONE;
        }
    }

    /** The bytes that wait to be read. */
    private static final class Tape {
        private final byte[] bytes = new byte[2000];
        private int filled;

        int bytesNow() {
            return filled;
        }

        boolean hasRoomFor(int more) {
            return more <= bytes.length - filled;
        }

        void append(int four) {
            for (int shift = 24; shift >= 0 && filled < bytes.length; shift -= 8) {
                bytes[filled] = (byte) (four >> shift);
                filled++;
            }
        }

        boolean drop(int n) {
            if (n < 0 || n > filled) {
                return false;
            }
            filled -= n;
            return true;
        }

        void clear() {
            filled = 0;
        }

        /** NONE where the tape has no byte. */
        int byteAt(int at) {
            return at >= 0 && at < filled ? bytes[at] & 255 : NONE;
        }
    }

    /** The tokens of a tape, and whether they follow the grammar and keep to the room there is. */
    private static final class Tokens {
        static final int NO_TOKEN = 0;
        static final int PRIME = 1;
        static final int LETTER = 2;
        static final int TO = 3;
        static final int LAW = 4;
        static final int NAME = 5;
        static final int INT = 6;
        static final int SEMICOLON = 7;
        static final int EQUAL = 8;
        static final int PLUS = 9;
        static final int MINUS = 10;
        static final int OPEN = 11;
        static final int CLOSE = 12;

        static final int MOST_TOKENS = 400;
        static final int DEEPEST = 4;
        private static final int LONGEST_NAME = 8;
        private static final int LONGEST_INT = 4;

        /** What is due next; DUE_FACTOR: behind an INT or a factor, where the product may go on or end. */
        private static final int DUE_TELL = 0;
        private static final int DUE_INT = 1;
        private static final int DUE_NAME = 2;
        private static final int DUE_END = 3;
        private static final int DUE_SUM = 4;
        private static final int DUE_TERM = 5;
        private static final int DUE_FACTOR = 6;

        private final int[] kinds = new int[MOST_TOKENS];
        private final int[] places = new int[MOST_TOKENS];
        private final int[] numbers = new int[MOST_TOKENS];
        private final long[] packed = new long[MOST_TOKENS];
        private int amount;
        private int due;
        private int depth;
        private int lettersSeen;
        private int lawsSeen;
        private boolean mayEqual;
        private boolean sumAlone;
        private int badPlace;
        private int kind;
        private int end;
        private int number;
        private long pack;

        int amountNow() {
            return amount;
        }

        int kindAt(int i) {
            return i >= 0 && i < amount ? kinds[i] : NO_TOKEN;
        }

        int placeAt(int i) {
            return i >= 0 && i < amount ? places[i] : NONE;
        }

        /** Of an INT the number, of a NAME that is resolved its letter. */
        int numberAt(int i) {
            return i >= 0 && i < amount ? numbers[i] : 0;
        }

        long packAt(int i) {
            return i >= 0 && i < amount ? packed[i] : 0;
        }

        int faultPlace() {
            return badPlace;
        }

        /** Reads the tape as a text, or as one sum alone: 0, SYNTAX or ROOM. */
        int take(Tape tape, boolean asSum) {
            amount = 0;
            depth = 0;
            lettersSeen = 0;
            lawsSeen = 0;
            mayEqual = false;
            sumAlone = asSum;
            badPlace = NONE;
            due = asSum ? DUE_SUM : DUE_TELL;
            int bytes = tape.bytesNow();
            int at = afterBlanks(tape, 0);
            for (int tried = 0; tried <= MOST_TOKENS && at < bytes; tried++) {
                scan(tape, at);
                int fault = !goesOn() ? SYNTAX : isTooMuch() ? ROOM : 0;
                if (fault != 0) {
                    badPlace = at;
                    return fault;
                }
                keep(at);
                at = afterBlanks(tape, end);
            }
            boolean whole = asSum ? due == DUE_FACTOR && depth == 0 : due == DUE_TELL;
            badPlace = whole ? NONE : bytes;
            return whole ? 0 : SYNTAX;
        }

        /** Gives each NAME its letter; the first token whose name is none of these, or NONE. */
        int resolveAll(long[] names, int told) {
            for (int i = 0; i < amount; i++) {
                if (kinds[i] == NAME && !resolve(i, names, told)) {
                    return i;
                }
            }
            return NONE;
        }

        boolean resolve(int i, long[] names, int told) {
            for (int letter = 0; letter < told && letter < names.length; letter++) {
                if (i >= 0 && i < amount && names[letter] == packed[i]) {
                    numbers[i] = letter;
                    return true;
                }
            }
            return false;
        }

        private void keep(int at) {
            if (amount < MOST_TOKENS) {
                kinds[amount] = kind;
                places[amount] = at;
                numbers[amount] = number;
                packed[amount] = pack;
                amount++;
            }
        }

        private boolean isTooMuch() {
            return amount >= MOST_TOKENS || lettersSeen > MOST_LETTERS || lawsSeen > MOST_LAWS || depth > DEEPEST;
        }

        private static int afterBlanks(Tape tape, int from) {
            int bytes = tape.bytesNow();
            for (int at = from; at < bytes; at++) {
                int sign = tape.byteAt(at);
                if (sign != 9 && sign != 10 && sign != 13 && sign != 32) {
                    return at;
                }
            }
            return bytes;
        }

        private void scan(Tape tape, int at) {
            int first = tape.byteAt(at);
            number = 0;
            pack = 0;
            if (isLetter(first)) {
                scanName(tape, at);
            } else if (isDigit(first)) {
                scanInt(tape, at);
            } else {
                end = at + 1;
                kind = signKind(first);
            }
        }

        private void scanName(Tape tape, int at) {
            int bytes = tape.bytesNow();
            for (end = at; end < bytes && isLetter(tape.byteAt(end)); end++) {
                pack = packBehind(pack, tape.byteAt(end));
            }
            kind = end - at > LONGEST_NAME ? NO_TOKEN : wordKind(pack);
        }

        private void scanInt(Tape tape, int at) {
            int bytes = tape.bytesNow();
            for (end = at; end < bytes && isDigit(tape.byteAt(end)); end++) {
                number = number * 10 + tape.byteAt(end) - '0';
            }
            kind = end - at > LONGEST_INT ? NO_TOKEN : INT;
        }

        private static boolean isLetter(int sign) {
            return sign >= 'a' && sign <= 'z';
        }

        private static boolean isDigit(int sign) {
            return sign >= '0' && sign <= '9';
        }

        /** Eight letters of five bits each: no two names have the same number, as no letter is 0. */
        private static long packBehind(long ahead, int letter) {
            return (ahead << 5) + (letter - 'a' + 1);
        }

        private static long packWord(String word) {
            long all = 0;
            for (int i = 0; i < word.length(); i++) {
                all = packBehind(all, word.charAt(i));
            }
            return all;
        }

        private static int wordKind(long pack) {
            if (pack == packWord("prime")) {
                return PRIME;
            }
            if (pack == packWord("letter")) {
                return LETTER;
            }
            if (pack == packWord("to")) {
                return TO;
            }
            return pack == packWord("law") ? LAW : NAME;
        }

        private static int signKind(int sign) {
            switch (sign) {
                case ';':
                    return SEMICOLON;
                case '=':
                    return EQUAL;
                case '+':
                    return PLUS;
                case '-':
                    return MINUS;
                case '(':
                    return OPEN;
                case ')':
                    return CLOSE;
                default:
                    return NO_TOKEN;
            }
        }

        /** Whether some text goes on with the token just scanned; if so, what is due behind it. */
        private boolean goesOn() {
            switch (due) {
                case DUE_TELL:
                    return tellBegins();
                case DUE_INT:
                    return goOn(kind == INT, DUE_END);
                case DUE_NAME:
                    return goOn(kind == NAME, DUE_END);
                case DUE_END:
                    return goOn(kind == SEMICOLON, DUE_TELL);
                case DUE_SUM:
                    return kind == MINUS ? goOn(true, DUE_TERM) : termBegins();
                case DUE_TERM:
                    return termBegins();
                default:
                    return termGoesOn();
            }
        }

        private boolean goOn(boolean fits, int then) {
            if (fits) {
                due = then;
            }
            return fits;
        }

        private boolean tellBegins() {
            switch (kind) {
                case PRIME:
                case TO:
                    return goOn(true, DUE_INT);
                case LETTER:
                    lettersSeen++;
                    return goOn(true, DUE_NAME);
                case LAW:
                    lawsSeen++;
                    mayEqual = true;
                    return goOn(true, DUE_SUM);
                default:
                    return false;
            }
        }

        private boolean termBegins() {
            return kind == INT ? goOn(true, DUE_FACTOR) : factorBegins();
        }

        private boolean factorBegins() {
            if (kind == OPEN) {
                depth++;
                return goOn(true, DUE_SUM);
            }
            return goOn(kind == NAME, DUE_FACTOR);
        }

        private boolean termGoesOn() {
            boolean outside = depth == 0 && !sumAlone;
            switch (kind) {
                case PLUS:
                case MINUS:
                    return goOn(true, DUE_TERM);
                case CLOSE:
                    depth--;
                    return goOn(depth >= 0, DUE_FACTOR);
                case EQUAL:
                    boolean first = outside && mayEqual;
                    mayEqual = false;
                    return goOn(first, DUE_SUM);
                case SEMICOLON:
                    return goOn(outside, DUE_TELL);
                default:
                    return factorBegins();
            }
        }
    }

    /** The letters, the degree and the prime; and how words stand in a row: by length, then by number. */
    private static final class Shape {
        private int letters;
        private int degree;
        private int prime;
        /** How many words of each length there are: none beyond the degree. */
        private final int[] many = new int[LONGEST + 1];
        private final int[] start = new int[LONGEST + 2];
        private final int[] lengths = new int[ROW];

        Shape() {
            become(0, LONGEST, GREATEST_PRIME);
        }

        void become(int newLetters, int newDegree, int newPrime) {
            letters = Math.max(0, Math.min(newLetters, MOST_LETTERS));
            degree = Math.max(0, Math.min(newDegree, LONGEST));
            prime = newPrime < 2 ? GREATEST_PRIME : newPrime;
            int words = 1;
            for (int d = 0; d <= LONGEST; d++) {
                many[d] = d <= degree ? words : 0;
                start[d + 1] = Math.min(start[d] + many[d], ROW);
                words *= letters;
                for (int i = start[d]; i < start[d + 1]; i++) {
                    lengths[i] = d;
                }
            }
        }

        int lettersTold() {
            return letters;
        }

        int longest() {
            return degree;
        }

        int modulus() {
            return prime;
        }

        boolean hasDegree(int d) {
            return d >= 0 && d <= degree;
        }

        /** How many words of d letters there are; 0 beyond the degree. */
        int wordsOf(int d) {
            return d >= 0 && d <= LONGEST ? many[d] : 0;
        }

        int startOf(int d) {
            return d >= 0 && d <= LONGEST ? start[d] : 0;
        }

        int wordsInAll() {
            return start[LONGEST + 1];
        }

        /** Where the word of a code stands in a row, or NONE. */
        int indexOf(int code) {
            if (code < 0) {
                return NONE;
            }
            int d = code / 1000;
            int number = code % 1000;
            return number < wordsOf(d) ? start[d] + number : NONE;
        }

        int lengthAt(int index) {
            return index >= 0 && index < ROW ? lengths[index] : 0;
        }

        int numberAt(int index) {
            return index - startOf(lengthAt(index));
        }

        int codeAt(int index) {
            return 1000 * lengthAt(index) + numberAt(index);
        }

        /** The number of one word and behind it another one of so many letters. */
        int join(int ahead, int behind, int lettersBehind) {
            return ahead * wordsOf(lettersBehind) + behind;
        }

        /** The number of the last d letters of a word. */
        int tailOf(int number, int d) {
            int words = wordsOf(d);
            return words > 0 ? number % words : 0;
        }

        /** The number of what stands ahead of the last d letters of a word. */
        int headOf(int number, int d) {
            int words = wordsOf(d);
            return words > 0 ? number / words : 0;
        }

        int rest(int value) {
            int rest = prime > 1 ? value % prime : 0;
            return rest < 0 ? rest + prime : rest;
        }

        /** What gives 1 with a rest that is not 0. */
        int inverseOf(int rest) {
            for (int i = 1; i < prime; i++) {
                if (rest(i * rest) == 1) {
                    return i;
                }
            }
            return 0;
        }

        /** The greatest length of a word of the row, NONE if it is nought. */
        int topOf(int[] row) {
            int at = greatestIn(row);
            return at == NONE ? NONE : lengthAt(at);
        }

        /** Where the greatest word of the row stands, or NONE. */
        int greatestIn(int[] row) {
            for (int i = Math.min(start[LONGEST + 1], row.length) - 1; i >= 0; i--) {
                if (row[i] != 0) {
                    return i;
                }
            }
            return NONE;
        }

        /** Adds factor * a * b, all of them rows; what has more letters than the degree is left out. */
        void addProduct(int[] to, int[] a, int[] b, int factor) {
            int words = Math.min(wordsInAll(), Math.min(to.length, Math.min(a.length, b.length)));
            for (int u = 0; u < words; u++) {
                int c = rest(factor * a[u]);
                int end = Math.min(wordsUpTo(degree - lengths[u]), words);
                for (int v = 0; c != 0 && v < end; v++) {
                    int at = b[v] != 0 ? indexOfBoth(u, v) : NONE;
                    if (at >= 0 && at < words) {
                        to[at] = rest(to[at] + c * b[v]);
                    }
                }
            }
        }

        /** How many words there are of no more than d letters. */
        private int wordsUpTo(int d) {
            return d >= 0 && d <= LONGEST ? start[d + 1] : 0;
        }

        /** Where one word with another one behind it stands; NONE if both together are longer than the degree. */
        private int indexOfBoth(int u, int v) {
            int i = lengths[u];
            int j = lengths[v];
            return i + j <= degree ? start[i + j] + (u - start[i]) * many[j] + v - start[j] : NONE;
        }
    }

    /** Multiplies out a sum that the tokens tell, one pair of rows for each depth of brackets. */
    private static final class Sums {
        private static final int DEPTHS = Tokens.DEEPEST + 1;
        private final int[][] sumRows = new int[DEPTHS][ROW];
        private final int[][] termRows = new int[DEPTHS][ROW];
        private final int[] spare = new int[ROW];
        private final int[] longSums = new int[DEPTHS];
        private final int[] longTerms = new int[DEPTHS];
        private Shape shape = new Shape();

        /** The sum multiplied out latest. */
        int[] result() {
            return sumRows[0];
        }

        /** The greatest LONG of the sum that begins at a token. */
        int longOf(Tokens tokens, int from) {
            int depth = 0;
            longSums[0] = 0;
            longTerms[0] = 0;
            for (int i = from; i < tokens.amountNow() && !endsSum(tokens.kindAt(i)); i++) {
                switch (tokens.kindAt(i)) {
                    case Tokens.NAME:
                        longTerms[depth]++;
                        break;
                    case Tokens.PLUS:
                    case Tokens.MINUS:
                        longSums[depth] = Math.max(longSums[depth], longTerms[depth]);
                        longTerms[depth] = 0;
                        break;
                    case Tokens.OPEN:
                        depth = Math.min(depth + 1, DEPTHS - 1);
                        longSums[depth] = 0;
                        longTerms[depth] = 0;
                        break;
                    case Tokens.CLOSE:
                        int inner = Math.max(longSums[depth], longTerms[depth]);
                        depth = Math.max(depth - 1, 0);
                        longTerms[depth] += inner;
                        break;
                    default:
                        break;
                }
            }
            return Math.max(longSums[0], longTerms[0]);
        }

        /** Multiplies out the sum that begins at a token (its LONG is no more than the degree): the token behind it. */
        int multiplyOut(Tokens tokens, int from, Shape wordsAre) {
            shape = wordsAre;
            int depth = 0;
            openSum(0);
            int i = from;
            for (; i < tokens.amountNow() && !endsSum(tokens.kindAt(i)); i++) {
                switch (tokens.kindAt(i)) {
                    case Tokens.NAME:
                        multiplyByLetter(depth, tokens.numberAt(i));
                        break;
                    case Tokens.INT:
                        multiplyByNumber(depth, tokens.numberAt(i));
                        break;
                    case Tokens.PLUS:
                    case Tokens.MINUS:
                        // A sign that begins the sum has no product ahead of it.
                        if (i > from && tokens.kindAt(i - 1) != Tokens.OPEN) {
                            shutTerm(depth);
                        }
                        openTerm(depth, tokens.kindAt(i) == Tokens.PLUS ? 1 : -1);
                        break;
                    case Tokens.OPEN:
                        depth = Math.min(depth + 1, DEPTHS - 1);
                        openSum(depth);
                        break;
                    default:
                        shutTerm(depth);
                        depth = Math.max(depth - 1, 0);
                        multiplyByRow(depth, sumRows[depth + 1]);
                        break;
                }
            }
            shutTerm(0);
            return i;
        }

        private static boolean endsSum(int kind) {
            return kind == Tokens.EQUAL || kind == Tokens.SEMICOLON;
        }

        private void openSum(int depth) {
            Arrays.fill(sumRows[depth], 0);
            openTerm(depth, 1);
        }

        private void openTerm(int depth, int sign) {
            Arrays.fill(termRows[depth], 0);
            termRows[depth][0] = shape.rest(sign);
        }

        private void shutTerm(int depth) {
            int[] sum = sumRows[depth];
            int[] term = termRows[depth];
            for (int i = 0; i < ROW; i++) {
                sum[i] = shape.rest(sum[i] + term[i]);
            }
        }

        private void multiplyByNumber(int depth, int number) {
            int[] term = termRows[depth];
            for (int i = 0; i < ROW; i++) {
                term[i] = shape.rest(term[i] * number);
            }
        }

        private void multiplyByLetter(int depth, int letter) {
            int[] term = termRows[depth];
            int letters = shape.lettersTold();
            Arrays.fill(spare, 0);
            for (int d = 0; d < shape.longest(); d++) {
                for (int w = 0; w < shape.wordsOf(d); w++) {
                    int at = shape.startOf(d + 1) + w * letters + letter;
                    if (at < ROW) {
                        spare[at] = term[shape.startOf(d) + w];
                    }
                }
            }
            System.arraycopy(spare, 0, term, 0, ROW);
        }

        private void multiplyByRow(int depth, int[] row) {
            Arrays.fill(spare, 0);
            shape.addProduct(spare, termRows[depth], row, 1);
            System.arraycopy(spare, 0, termRows[depth], 0, ROW);
        }
    }

    /** What a text tells whose tokens follow the grammar; it is kept apart until it is known to have no fault. */
    private static final class Telling {
        private final Sums sums;
        private final Shape shape = new Shape();
        private final long[] names = new long[MOST_LETTERS];
        private final int[][] laws = new int[MOST_LAWS][MOST_WORDS];
        private final int[] lengths = new int[MOST_LAWS];
        private final int[] law = new int[ROW];
        private int lettersNow;
        private int lawsNow;
        private int prime;
        private int degree;
        private int degreePlace;
        private int badPlace;

        Telling(Sums sums) {
            this.sums = sums;
        }

        Shape shapeTold() {
            return shape;
        }

        long[] namesTold() {
            return names;
        }

        int lawsTold() {
            return lawsNow;
        }

        /** What the law counts, by the numbers of the words of its length. */
        int[] lawAt(int i) {
            return laws[Math.max(0, Math.min(i, MOST_LAWS - 1))];
        }

        int lawLength(int i) {
            return i >= 0 && i < lawsNow ? lengths[i] : 0;
        }

        int faultPlace() {
            return badPlace;
        }

        /** 0 or the number of the fault. */
        int understand(Tokens tokens) {
            lettersNow = 0;
            lawsNow = 0;
            prime = GREATEST_PRIME;
            degree = 0;
            badPlace = NONE;
            int fault = takeWords(tokens);
            if (fault == 0) {
                fault = takeDegree();
            }
            return fault == 0 ? takeLaws(tokens) : fault;
        }

        private int faultAt(int place, int fault) {
            badPlace = place;
            return fault;
        }

        private int takeWords(Tokens tokens) {
            for (int i = 0; i < tokens.amountNow(); i++) {
                int fault = takeWord(tokens, i);
                if (fault != 0) {
                    return faultAt(tokens.placeAt(i), fault);
                }
            }
            return 0;
        }

        private int takeWord(Tokens tokens, int i) {
            int ahead = tokens.kindAt(i - 1);
            if (tokens.kindAt(i) == Tokens.NAME) {
                boolean known = tokens.resolve(i, names, lettersNow);
                if (ahead != Tokens.LETTER) {
                    return known ? 0 : NAME_FAULT;
                }
                return !known && takeLetter(tokens.packAt(i)) ? 0 : TWICE;
            }
            if (ahead == Tokens.PRIME) {
                prime = tokens.numberAt(i);
                return isPrime(prime) ? 0 : WRONG;
            }
            if (ahead == Tokens.TO) {
                degree = tokens.numberAt(i);
                degreePlace = tokens.placeAt(i);
                return degree >= 1 && degree <= LONGEST ? 0 : WRONG;
            }
            return 0;
        }

        private boolean takeLetter(long pack) {
            if (lettersNow >= MOST_LETTERS) {
                return false;
            }
            names[lettersNow] = pack;
            lettersNow++;
            return true;
        }

        private static boolean isPrime(int n) {
            if (n < 2 || n > GREATEST_PRIME) {
                return false;
            }
            for (int i = 2; i < n; i++) {
                if (n % i == 0) {
                    return false;
                }
            }
            return true;
        }

        private int takeDegree() {
            if (degree == 0) {
                degree = greatestDegree();
            } else if (wordsOfLength(degree) > MOST_WORDS) {
                return faultAt(degreePlace, MANY);
            }
            shape.become(lettersNow, degree, prime);
            return 0;
        }

        private int greatestDegree() {
            for (int d = LONGEST; d > 1; d--) {
                if (wordsOfLength(d) <= MOST_WORDS) {
                    return d;
                }
            }
            return 1;
        }

        private int wordsOfLength(int d) {
            int words = 1;
            for (int i = 0; i < d; i++) {
                words *= lettersNow;
            }
            return words;
        }

        private int takeLaws(Tokens tokens) {
            for (int i = 0; i < tokens.amountNow(); i++) {
                if (tokens.kindAt(i) == Tokens.LAW && !takeLaw(tokens, i + 1)) {
                    return faultAt(tokens.placeAt(i), LENGTHS);
                }
            }
            return 0;
        }

        private boolean takeLaw(Tokens tokens, int from) {
            if (lawsNow >= MOST_LAWS || sums.longOf(tokens, from) > degree) {
                return false;
            }
            int behind = sums.multiplyOut(tokens, from, shape);
            System.arraycopy(sums.result(), 0, law, 0, ROW);
            if (tokens.kindAt(behind) == Tokens.EQUAL) {
                if (sums.longOf(tokens, behind + 1) > degree) {
                    return false;
                }
                sums.multiplyOut(tokens, behind + 1, shape);
                lessen(sums.result());
            }
            return keepLaw();
        }

        private void lessen(int[] by) {
            for (int i = 0; i < ROW; i++) {
                law[i] = shape.rest(law[i] - by[i]);
            }
        }

        private boolean keepLaw() {
            int d = Math.max(0, shape.topOf(law));
            int from = shape.startOf(d);
            for (int i = 0; i < from; i++) {
                if (law[i] != 0) {
                    return false;
                }
            }
            if (d == 0 && law[0] != 0) {
                return false;
            }
            for (int w = 0; w < shape.wordsOf(d) && w < MOST_WORDS; w++) {
                laws[lawsNow][w] = law[from + w];
            }
            lengths[lawsNow] = d;
            lawsNow++;
            return true;
        }
    }

    /** What the laws make nought, degree by degree: of a degree only what reach() has worked out may be asked for. */
    private static final class Nought {
        /** The dual of four letters has up to sixteen. */
        private static final int LAWS = 16;
        /** The squares of how many words there are of each length: most for four letters up to four. */
        private static final int FORMS = 69905;

        private final Shape shape;
        private final int[][] laws = new int[LAWS][MOST_WORDS];
        private final int[] lengths = new int[LAWS];
        private int lawsNow;
        /** For each word of a degree what each word of it counts in its plain form. */
        private final int[] forms = new int[FORMS];
        private final int[] formStart = new int[LONGEST + 2];
        private final byte[] leading = new byte[ROW];
        private final int[] sizes = new int[LONGEST + 1];
        private final long[] series = new long[LONGEST + 1];
        private final int[] row = new int[MOST_WORDS];
        private final int[] reduced = new int[MOST_WORDS];
        private int reached = NONE;

        Nought(Shape shape) {
            this.shape = shape;
        }

        void forget() {
            lawsNow = 0;
            reached = NONE;
        }

        void takeLaw(int[] coefficients, int d) {
            if (lawsNow >= LAWS) {
                return;
            }
            int words = Math.min(shape.wordsOf(d), Math.min(coefficients.length, MOST_WORDS));
            System.arraycopy(coefficients, 0, laws[lawsNow], 0, words);
            lengths[lawsNow] = d;
            lawsNow++;
        }

        int lawsNow() {
            return lawsNow;
        }

        int lawLength(int i) {
            return i >= 0 && i < lawsNow ? lengths[i] : 0;
        }

        int lawCounts(int i, int word) {
            return i >= 0 && i < lawsNow && word >= 0 && word < MOST_WORDS ? laws[i][word] : 0;
        }

        int noughtLaws() {
            int found = 0;
            for (int i = 0; i < lawsNow; i++) {
                found += lengths[i] == 0 ? 1 : 0;
            }
            return found;
        }

        boolean isQuadratic() {
            for (int i = 0; i < lawsNow; i++) {
                if (lengths[i] != 0 && lengths[i] != 2) {
                    return false;
                }
            }
            return true;
        }

        /** Works out all degrees up to d, where that was not done before: whether there is such a degree. */
        boolean reach(int d) {
            if (!shape.hasDegree(d)) {
                return false;
            }
            for (int next = reached + 1; next <= d; next++) {
                build(next);
                reached = next;
            }
            return true;
        }

        private void build(int d) {
            int words = shape.wordsOf(d);
            formStart[d + 1] = Math.min(formStart[d] + words * words, FORMS);
            if (d == 0) {
                leading[0] = 0;
                forms[0] = 1;
            } else {
                takeOver(d);
                multiplyFromRight(d);
                takeLawsOf(d);
            }
            sizes[d] = 0;
            for (int w = 0; w < words; w++) {
                sizes[d] += leads(d, w) ? 0 : 1;
            }
        }

        /** A letter ahead of what is nought is nought: the forms of d - 1 stand once for each first letter. */
        private void takeOver(int d) {
            int words = shape.wordsOf(d);
            int shorter = shape.wordsOf(d - 1);
            for (int i = formStart[d]; i < formStart[d + 1]; i++) {
                forms[i] = 0;
            }
            for (int w = 0; w < words; w++) {
                int tail = shape.tailOf(w, d - 1);
                int from = formStart[d - 1] + tail * shorter;
                int to = formStart[d] + w * words + w - tail;
                for (int k = 0; k <= tail && to + k < FORMS; k++) {
                    forms[to + k] = forms[from + k];
                }
                leading[shape.startOf(d) + w] = leading[shape.startOf(d - 1) + tail];
            }
        }

        /** What is nought in d - 1 by a letter ahead gives nothing new with one behind: only the rest is tried. */
        private void multiplyFromRight(int d) {
            int letters = shape.lettersTold();
            for (int w = 0; w < shape.wordsOf(d - 1); w++) {
                for (int x = 0; x < letters && leadsAnew(d - 1, w); x++) {
                    Arrays.fill(row, 0);
                    for (int k = 0; k < w; k++) {
                        row[k * letters + x] = shape.rest(-formAt(d - 1, w, k));
                    }
                    row[w * letters + x] = 1;
                    insert(d);
                }
            }
        }

        private void takeLawsOf(int d) {
            for (int i = 0; i < lawsNow; i++) {
                if (lengths[i] == d) {
                    System.arraycopy(laws[i], 0, row, 0, MOST_WORDS);
                    insert(d);
                }
            }
        }

        /** Makes the row nought: its greatest word, all others plain, is leading from now on. */
        private void insert(int d) {
            int words = shape.wordsOf(d);
            reduce(d, words);
            int lead = words - 1;
            while (lead >= 0 && reduced[lead] == 0) {
                lead--;
            }
            if (lead < 0) {
                return;
            }
            int scale = shape.rest(-shape.inverseOf(reduced[lead]));
            for (int k = 0; k < lead; k++) {
                reduced[k] = shape.rest(scale * reduced[k]);
            }
            leading[shape.startOf(d) + lead] = 1;
            for (int w = lead; w < words; w++) {
                replace(formStart[d] + w * words, lead);
            }
        }

        private void reduce(int d, int words) {
            Arrays.fill(reduced, 0);
            for (int w = 0; w < words; w++) {
                int c = row[w];
                int at = formStart[d] + w * words;
                for (int k = 0; k <= w && c != 0; k++) {
                    reduced[k] += c * forms[at + k];
                }
            }
            for (int k = 0; k < words; k++) {
                reduced[k] = shape.rest(reduced[k]);
            }
        }

        /** In the form that begins there, puts what the reduced row tells in place of the word that leads it. */
        private void replace(int at, int lead) {
            int c = forms[at + lead];
            if (c == 0) {
                return;
            }
            for (int k = 0; k < lead; k++) {
                if (reduced[k] != 0) {
                    forms[at + k] = shape.rest(forms[at + k] + c * reduced[k]);
                }
            }
            forms[at + lead] = 0;
        }

        private int formAt(int d, int of, int what) {
            int at = formStart[d] + of * shape.wordsOf(d) + what;
            return at >= 0 && at < FORMS ? forms[at] : 0;
        }

        private boolean leads(int d, int w) {
            int at = shape.startOf(d) + w;
            return at >= 0 && at < ROW && leading[at] != 0;
        }

        private boolean leadsAnew(int d, int w) {
            return d > 0 && leads(d, w) && !leads(d - 1, shape.tailOf(w, d - 1));
        }

        private boolean hasWord(int d, int w) {
            return w >= 0 && w < shape.wordsOf(d);
        }

        boolean isLeading(int d, int w) {
            return hasWord(d, w) && leads(d, w);
        }

        boolean isBasic(int d, int w) {
            return hasWord(d, w) && leadsAnew(d, w) && !leads(d - 1, shape.headOf(w, 1));
        }

        /** What one word of a degree counts in the plain form of another one. */
        int formOf(int d, int of, int what) {
            return hasWord(d, of) && hasWord(d, what) ? formAt(d, of, what) : 0;
        }

        int sizeOf(int d) {
            return shape.hasDegree(d) ? sizes[d] : 0;
        }

        /** NONE: no degree has size 0. */
        int sumOfSizes() {
            int all = 0;
            boolean ends = false;
            for (int d = 0; d <= shape.longest(); d++) {
                all += sizeOf(d);
                ends = ends || sizeOf(d) == 0;
            }
            return ends ? all : NONE;
        }

        int normalAt(int d, int i) {
            int ahead = 0;
            for (int w = 0; w < shape.wordsOf(d); w++) {
                if (!isLeading(d, w)) {
                    if (ahead == i) {
                        return w;
                    }
                    ahead++;
                }
            }
            return NONE;
        }

        int basisOf(int d) {
            int found = 0;
            for (int w = 0; w < shape.wordsOf(d); w++) {
                found += isBasic(d, w) ? 1 : 0;
            }
            return found;
        }

        int basisInAll() {
            int found = 0;
            for (int d = 0; d <= shape.longest(); d++) {
                found += basisOf(d);
            }
            return found;
        }

        int basisAt(int d, int i) {
            int ahead = 0;
            for (int w = 0; w < shape.wordsOf(d); w++) {
                if (isBasic(d, w)) {
                    if (ahead == i) {
                        return w;
                    }
                    ahead++;
                }
            }
            return NONE;
        }

        long inverseOf(int d) {
            if (!shape.hasDegree(d)) {
                return 0;
            }
            series[0] = 1;
            for (int i = 1; i <= d; i++) {
                series[i] = 0;
                for (int j = 1; j <= i; j++) {
                    series[i] -= sizeOf(j) * series[i - j];
                }
            }
            return series[d];
        }

        /** Puts the plain form of a row of words into another row. */
        void makePlain(int[] from, int[] to) {
            Arrays.fill(to, 0);
            int top = shape.topOf(from);
            for (int d = 0; d <= top; d++) {
                int words = shape.wordsOf(d);
                int start = shape.startOf(d);
                System.arraycopy(from, start, row, 0, words);
                reduce(d, words);
                System.arraycopy(reduced, 0, to, start, words);
            }
        }
    }

    /** The words that are left, the ways among them, and the chains. */
    private static final class Machine {
        /** Words of one letter less than the longest: most for three letters, four of them. */
        private static final int PLACES = 81;
        private static final int HALF = 64;
        private static final int CHAIN_ROWS = (LONGEST + 1) * ROW;

        private final Shape shape;
        private final Nought nought;
        private long[] ways = new long[PLACES];
        private long[] waysNext = new long[PLACES];
        /** The places that come behind each one, a bit each: the first 64, and the others. */
        private final long[] reachLow = new long[PLACES];
        private final long[] reachHigh = new long[PLACES];
        private final int[] circles = new int[PLACES];
        /** How many chains there are, by their letters and by the word that is their last step. */
        private int[] chainsNow = new int[CHAIN_ROWS];
        private int[] chainsNext = new int[CHAIN_ROWS];

        Machine(Shape shape, Nought nought) {
            this.shape = shape;
            this.nought = nought;
        }

        boolean isClosed() {
            for (int a = 1; a <= shape.longest(); a++) {
                for (int u = 0; u < shape.wordsOf(a); u++) {
                    if (nought.isBasic(a, u) && !closesWithAll(a, u)) {
                        return false;
                    }
                }
            }
            return true;
        }

        private boolean closesWithAll(int a, int u) {
            for (int b = 1; b <= shape.longest(); b++) {
                for (int v = 0; v < shape.wordsOf(b) && a + b > shape.longest(); v++) {
                    if (nought.isBasic(b, v) && overlapsTooLong(a, u, b, v)) {
                        return false;
                    }
                }
            }
            return true;
        }

        private boolean overlapsTooLong(int a, int u, int b, int v) {
            for (int k = 1; k < Math.min(a, b) && a + b - k > shape.longest(); k++) {
                if (shape.tailOf(u, k) == shape.headOf(v, b - k)) {
                    return true;
                }
            }
            return false;
        }

        /** How many letters a place of the machine has. */
        private int placeLetters() {
            for (int d = shape.longest(); d > 2; d--) {
                if (nought.basisOf(d) > 0) {
                    return d - 1;
                }
            }
            return 1;
        }

        /** The place behind one by a letter more, or NONE. */
        private int step(int letters, int place, int letter) {
            int longer = shape.join(place, letter, 1);
            int next = shape.tailOf(longer, letters);
            boolean left = !nought.isLeading(letters, place) && !nought.isLeading(letters, next)
                    && !nought.isLeading(letters + 1, longer);
            return left && next < PLACES ? next : NONE;
        }

        long leftOf(int n) {
            if (n <= shape.longest()) {
                return nought.sizeOf(n);
            }
            int letters = placeLetters();
            int places = Math.min(shape.wordsOf(letters), PLACES);
            for (int w = 0; w < places; w++) {
                ways[w] = nought.isLeading(letters, w) ? 0 : 1;
            }
            for (int i = letters; i < n; i++) {
                goOneLetter(letters, places);
            }
            long all = 0;
            for (int w = 0; w < places; w++) {
                all = addUpTo(all, ways[w]);
            }
            return all;
        }

        private void goOneLetter(int letters, int places) {
            Arrays.fill(waysNext, 0);
            for (int w = 0; w < places; w++) {
                for (int x = 0; x < shape.lettersTold() && ways[w] > 0; x++) {
                    int next = step(letters, w, x);
                    if (next != NONE) {
                        waysNext[next] = addUpTo(waysNext[next], ways[w]);
                    }
                }
            }
            long[] old = ways;
            ways = waysNext;
            waysNext = old;
        }

        private static long addUpTo(long a, long b) {
            return a > MOST_TOLD - b ? MOST_TOLD : a + b;
        }

        int growthOfLeft() {
            int letters = placeLetters();
            int places = Math.min(shape.wordsOf(letters), PLACES);
            findWays(letters, places);
            for (int w = 0; w < places; w++) {
                circles[w] = comesTo(w, w) ? 1 : 0;
                if (waysBack(letters, w) > 1) {
                    return NOT_TOLD;
                }
            }
            return mostCircles(places);
        }

        private void findWays(int letters, int places) {
            for (int w = 0; w < places; w++) {
                reachLow[w] = 0;
                reachHigh[w] = 0;
                for (int x = 0; x < shape.lettersTold(); x++) {
                    int next = step(letters, w, x);
                    if (next != NONE && next < HALF) {
                        reachLow[w] |= 1L << next;
                    } else if (next != NONE) {
                        reachHigh[w] |= 1L << (next - HALF);
                    }
                }
            }
            for (int over = 0; over < places; over++) {
                for (int w = 0; w < places; w++) {
                    if (comesTo(w, over)) {
                        reachLow[w] |= reachLow[over];
                        reachHigh[w] |= reachHigh[over];
                    }
                }
            }
        }

        private boolean comesTo(int from, int to) {
            long bits = to < HALF ? reachLow[from] >> to : reachHigh[from] >> (to - HALF);
            return (bits & 1) != 0;
        }

        /** By how many letters a way goes on from a place that comes back to it: each begins another circle. */
        private int waysBack(int letters, int place) {
            int found = 0;
            for (int x = 0; x < shape.lettersTold(); x++) {
                int next = step(letters, place, x);
                found += next != NONE && (next == place || comesTo(next, place)) ? 1 : 0;
            }
            return found;
        }

        /** Each round lets the ways be one circle longer; there are no more circles than places. */
        private int mostCircles(int places) {
            int most = 0;
            boolean longer = true;
            for (int round = 0; round <= places && longer; round++) {
                longer = false;
                for (int w = 0; w < places; w++) {
                    int found = circlesFrom(w, places);
                    longer = longer || found > circles[w];
                    circles[w] = found;
                    most = Math.max(most, found);
                }
            }
            return most;
        }

        private int circlesFrom(int place, int places) {
            int most = circles[place];
            for (int to = 0; to < places && most > 0; to++) {
                if (circles[to] >= most && comesTo(place, to) && !comesTo(to, place)) {
                    most = circles[to] + 1;
                }
            }
            return most;
        }

        int chainsOf(int n, int d) {
            Arrays.fill(chainsNow, 0);
            for (int x = 0; x < shape.wordsOf(1); x++) {
                chainsNow[ROW + shape.startOf(1) + x] = nought.isLeading(1, x) ? 0 : 1;
            }
            for (int step = 0; step < n; step++) {
                goOneStep(d);
            }
            int all = 0;
            for (int i = 0; i < shape.wordsInAll(); i++) {
                all += chainsNow[d * ROW + i];
            }
            return all;
        }

        private void goOneStep(int most) {
            Arrays.fill(chainsNext, 0);
            for (int letters = 1; letters < most; letters++) {
                for (int i = 1; i < shape.wordsInAll(); i++) {
                    int chains = chainsNow[letters * ROW + i];
                    for (int more = 1; chains > 0 && letters + more <= most; more++) {
                        lengthen(chains, letters + more, i, more);
                    }
                }
            }
            int[] old = chainsNow;
            chainsNow = chainsNext;
            chainsNext = old;
        }

        /** Puts a last step of so many letters behind chains whose last step stands at an index. */
        private void lengthen(int chains, int letters, int index, int more) {
            int both = shape.lengthAt(index) + more;
            for (int u = 0; u < shape.wordsOf(more); u++) {
                int word = shape.join(shape.numberAt(index), u, more);
                // A word of the base that ends earlier would make leading what is without the last letter.
                if (!nought.isLeading(more, u) && nought.isLeading(both, word)
                        && !nought.isLeading(both - 1, shape.headOf(word, 1))) {
                    chainsNext[letters * ROW + shape.startOf(more) + u] += chains;
                }
            }
        }
    }

    /** How many of many sums are independent: the centre, and what a letter makes of a degree. */
    private static final class Ranks {
        /** Words of a degree below the last one: most for three letters, four of them. */
        private static final int WIDEST = 81;

        private final Shape shape;
        private final Nought nought;
        private final int[] unknowns = new int[WIDEST];
        private final int[] equation = new int[WIDEST];
        /** The equations kept, each in the row of the first unknown that it has. */
        private final int[][] kept = new int[WIDEST][WIDEST];
        private final byte[] isKept = new byte[WIDEST];
        private int wide;
        private int rank;

        Ranks(Shape shape, Nought nought) {
            this.shape = shape;
            this.nought = nought;
        }

        int centreOf(int d) {
            begin(d);
            for (int x = 0; x < shape.lettersTold(); x++) {
                for (int word = 0; word < shape.wordsOf(d + 1) && rank < wide; word++) {
                    for (int i = 0; i < wide; i++) {
                        equation[i] = product(x, d, i, false, word) - product(x, d, i, true, word);
                    }
                    takeEquation();
                }
            }
            return wide - rank;
        }

        int rankOf(int letter, int d, boolean right) {
            begin(d);
            for (int word = 0; word < shape.wordsOf(d + 1) && rank < wide; word++) {
                for (int i = 0; i < wide; i++) {
                    equation[i] = product(letter, d, i, right, word);
                }
                takeEquation();
            }
            return rank;
        }

        /** The unknowns are what the normal words of the degree count. */
        private void begin(int d) {
            wide = 0;
            rank = 0;
            for (int w = 0; w < shape.wordsOf(d); w++) {
                if (!nought.isLeading(d, w) && wide < WIDEST) {
                    unknowns[wide] = w;
                    isKept[wide] = 0;
                    wide++;
                }
            }
        }

        /** What a word counts in the plain form of a normal word with the letter behind (right) or ahead of it. */
        private int product(int letter, int d, int i, boolean right, int word) {
            int both = right ? shape.join(unknowns[i], letter, 1) : shape.join(letter, unknowns[i], d);
            return nought.formOf(d + 1, both, word);
        }

        private void takeEquation() {
            for (int i = 0; i < wide; i++) {
                int c = shape.rest(equation[i]);
                if (c != 0 && isKept[i] == 0) {
                    keepEquation(i, shape.inverseOf(c));
                    return;
                }
                for (int k = i; k < wide && c != 0; k++) {
                    equation[k] = shape.rest(equation[k] - c * kept[i][k]);
                }
            }
        }

        private void keepEquation(int first, int scale) {
            for (int k = 0; k < wide; k++) {
                kept[first][k] = k < first ? 0 : shape.rest(equation[k] * scale);
            }
            isKept[first] = 1;
            rank++;
        }
    }

    /** The dual of a quadratic algebra. */
    private static final class Mirror {
        private final Shape shape;
        private final Nought nought;
        private final Nought dual;
        private final int[] law = new int[16];
        private boolean known;

        Mirror(Shape shape, Nought nought) {
            this.shape = shape;
            this.nought = nought;
            this.dual = new Nought(shape);
        }

        void forget() {
            known = false;
        }

        void reach(int d) {
            if (!known) {
                known = true;
                nought.reach(2);
                takeLaws();
            }
            dual.reach(d);
        }

        int sizeOf(int d) {
            return dual.sizeOf(d);
        }

        /** A law for each normal word: it, and each leading word by what it counts in that one's plain form. */
        private void takeLaws() {
            dual.forget();
            int words = Math.min(shape.wordsOf(2), law.length);
            for (int k = 0; k < words; k++) {
                if (!nought.isLeading(2, k)) {
                    for (int w = 0; w < words; w++) {
                        law[w] = nought.formOf(2, w, k);
                    }
                    dual.takeLaw(law, 2);
                }
            }
        }

        int firstBend() {
            for (int d = 1; d <= shape.longest(); d++) {
                int sum = 0;
                for (int j = 0; j <= d; j++) {
                    int product = nought.sizeOf(d - j) * dual.sizeOf(j);
                    sum += j % 2 == 0 ? product : -product;
                }
                if (sum != 0) {
                    return d;
                }
            }
            return NONE;
        }
    }

    /** Counts the ways to give each letter a square of rests (of side 1 or 2) so that all laws hold. */
    private static final class Squares {
        private static final int TERMS = MOST_LAWS * MOST_WORDS;
        /** Squares of side 2 have tables up to the prime 3; with a greater one there is room for one letter alone. */
        private static final int TABLE_PRIME = 3;
        private static final int MOST_SQUARES = 81;

        private final Shape shape;
        private final Nought nought;
        /** The words of the laws: what each counts, as a square; how many first letters it shares with the one ahead. */
        private final int[] termSquares = new int[TERMS];
        private final int[] termShares = new int[TERMS];
        private final byte[] termLetters = new byte[TERMS * LONGEST];
        private final int[] row = new int[MOST_WORDS];
        private final int[] lawEnds = new int[MOST_LAWS + 1];
        private final int[] lawTops = new int[MOST_LAWS];
        private int side = 1;
        /** How many squares there are: each is a number, its rests the digits of it. */
        private int squares;
        private final int[] sumTable = new int[MOST_SQUARES * MOST_SQUARES];
        private final int[] productTable = new int[MOST_SQUARES * MOST_SQUARES];
        private final byte[] seen = new byte[MOST_SQUARES];
        private final int[] values = new int[MOST_LETTERS];
        /** The products of the first letters of a word. */
        private final int[] products = new int[LONGEST];

        Squares(Shape shape, Nought nought) {
            this.shape = shape;
            this.nought = nought;
        }

        /** NOT_TOLD: there are more ways in all than so many. */
        int waysOf(int newSide, int most) {
            side = Math.max(1, Math.min(newSide, 2));
            int letters = shape.lettersTold();
            long ways = 1;
            for (int i = 0; i < letters * side * side && ways <= most; i++) {
                ways *= shape.modulus();
            }
            if (ways > most) {
                return NOT_TOLD;
            }
            if (side == 2 && shape.modulus() > TABLE_PRIME) {
                return waysOfOneLetter((int) ways);
            }
            takeTerms();
            takeSquares();
            int found = 1;
            for (int first = 0; first < letters; first++) {
                found += waysFrom(first, most);
            }
            return found;
        }

        /** The laws of one letter are its powers; a power is 0 if the second one is: trace and determinant are 0. */
        private int waysOfOneLetter(int ways) {
            int least = NONE;
            for (int i = 0; i < nought.lawsNow(); i++) {
                int d = nought.lawLength(i);
                if (d > 0 && (least == NONE || d < least)) {
                    least = d;
                }
            }
            if (least == NONE) {
                return ways;
            }
            return least == 1 ? 1 : shape.modulus() * shape.modulus();
        }

        private void takeTerms() {
            int terms = 0;
            for (int i = 0; i < MOST_LAWS; i++) {
                int d = nought.lawLength(i);
                int ahead = NONE;
                lawTops[i] = NONE;
                takeRow(i, d);
                for (int w = 0; d > 0 && w < shape.wordsOf(d) && terms < TERMS; w++) {
                    if (row[w] != 0) {
                        takeTerm(terms, i, w, ahead);
                        ahead = w;
                        terms++;
                    }
                }
                lawEnds[i + 1] = terms;
            }
        }

        /** What the law counts; of words that have the same letters the first one counts for all if these are rests. */
        private void takeRow(int law, int d) {
            Arrays.fill(row, 0);
            for (int w = 0; d > 0 && w < shape.wordsOf(d); w++) {
                int count = nought.lawCounts(law, w);
                if (count != 0) {
                    int at = side == 1 ? inOrder(w, d) : w;
                    row[at] = shape.rest(row[at] + count);
                }
            }
        }

        private int inOrder(int word, int d) {
            int ordered = 0;
            for (int letter = 0; letter < shape.lettersTold(); letter++) {
                for (int j = 0; j < d; j++) {
                    if (shape.tailOf(shape.headOf(word, j), 1) == letter) {
                        ordered = shape.join(ordered, letter, 1);
                    }
                }
            }
            return ordered;
        }

        private void takeTerm(int term, int law, int word, int ahead) {
            int d = nought.lawLength(law);
            termSquares[term] = timesOne(row[word]);
            termShares[term] = 0;
            for (int j = 0; j < d && j < LONGEST; j++) {
                int head = shape.headOf(word, d - 1 - j);
                int letter = shape.tailOf(head, 1);
                termLetters[term * LONGEST + j] = (byte) letter;
                lawTops[law] = Math.max(lawTops[law], letter);
                if (ahead != NONE && head == shape.headOf(ahead, d - 1 - j)) {
                    termShares[term] = j + 1;
                }
            }
        }

        private void takeSquares() {
            int prime = shape.modulus();
            squares = side == 1 ? prime : prime * prime * prime * prime;
            for (int a = 0; side == 2 && a < squares && a < MOST_SQUARES; a++) {
                for (int b = 0; b < squares && b < MOST_SQUARES; b++) {
                    sumTable[a * MOST_SQUARES + b] = square(digit(a, 0) + digit(b, 0), digit(a, 1) + digit(b, 1),
                            digit(a, 2) + digit(b, 2), digit(a, 3) + digit(b, 3));
                    productTable[a * MOST_SQUARES + b] = square(
                            digit(a, 0) * digit(b, 0) + digit(a, 1) * digit(b, 2),
                            digit(a, 0) * digit(b, 1) + digit(a, 1) * digit(b, 3),
                            digit(a, 2) * digit(b, 0) + digit(a, 3) * digit(b, 2),
                            digit(a, 2) * digit(b, 1) + digit(a, 3) * digit(b, 3));
                }
            }
        }

        private int digit(int square, int place) {
            int rest = square;
            for (int i = 0; i < place && shape.modulus() > 1; i++) {
                rest /= shape.modulus();
            }
            return shape.rest(rest);
        }

        private int square(int a, int b, int c, int d) {
            int prime = shape.modulus();
            return ((shape.rest(d) * prime + shape.rest(c)) * prime + shape.rest(b)) * prime + shape.rest(a);
        }

        private int sum(int a, int b) {
            return side == 1 ? shape.rest(a + b) : sumTable[a * MOST_SQUARES + b];
        }

        private int product(int a, int b) {
            return side == 1 ? shape.rest(a * b) : productTable[a * MOST_SQUARES + b];
        }

        private int timesOne(int rest) {
            return side == 1 ? shape.rest(rest) : square(rest, 0, 0, rest);
        }

        /**
         * The ways whose first letter with a square that is not 0 is that one. Laws of one length each hold as well for
         * all multiples of a way, and for the way seen from another basis: one square of each such kind is tried.
         */
        private int waysFrom(int first, int most) {
            if (side == 1) {
                return (squares - 1) * waysWith(first, 1, most);
            }
            int found = 0;
            for (int i = 0; i < MOST_SQUARES; i++) {
                seen[i] = 0;
            }
            for (int kind = 1; kind < squares && kind < MOST_SQUARES; kind++) {
                if (seen[kind] == 0) {
                    found += markKind(kind) * waysWith(first, kind, most);
                }
            }
            return found;
        }

        /** Marks g * kind * h, by all numbers but 0, for all g and h whose product is 1: how many there are. */
        private int markKind(int kind) {
            int one = timesOne(1);
            int found = 0;
            for (int g = 0; g < squares; g++) {
                for (int h = 0; h < squares; h++) {
                    for (int c = 1; c < shape.modulus() && product(g, h) == one; c++) {
                        int other = product(timesOne(c), product(product(g, kind), h));
                        found += seen[other] == 0 ? 1 : 0;
                        seen[other] = 1;
                    }
                }
            }
            return found;
        }

        private int waysWith(int first, int square, int most) {
            int letters = shape.lettersTold();
            Arrays.fill(values, 0);
            values[first] = square;
            int found = 0;
            int changed = first;
            for (int tried = 0; tried <= most; tried++) {
                int bad = firstThatFails(changed, letters);
                found += bad == letters ? 1 : 0;
                // Where a law of the first letters fails, it does so whatever the others are.
                int at = Math.min(bad, letters - 1);
                while (at > first && values[at] >= squares - 1) {
                    values[at] = 0;
                    at--;
                }
                if (at <= first) {
                    return found;
                }
                values[at]++;
                changed = at;
            }
            return found;
        }

        /** The first letter from one on with which, and those ahead, a law fails; how many there are if none does. */
        private int firstThatFails(int from, int letters) {
            for (int letter = from; letter < letters; letter++) {
                for (int law = 0; law < MOST_LAWS; law++) {
                    if (lawTops[law] == letter && !holds(law)) {
                        return letter;
                    }
                }
            }
            return letters;
        }

        private boolean holds(int law) {
            int last = nought.lawLength(law) - 1;
            int all = 0;
            for (int term = lawEnds[law]; term < lawEnds[law + 1]; term++) {
                for (int j = termShares[term]; j <= last; j++) {
                    int value = values[termLetters[term * LONGEST + j]];
                    products[j] = j == 0 ? value : product(products[j - 1], value);
                }
                all = sum(all, product(termSquares[term], products[last]));
            }
            return all == 0;
        }
    }

    /** The sums of words that are kept, and the slots that hold them. */
    private static final class Elements {
        private static final int AMOUNT = 6;
        private static final int SLOTS = 3;
        private static final int MOST_FACTORS = 7;

        private final Shape shape;
        private final Nought nought;
        private final int[][] rows = new int[AMOUNT][ROW];
        /** The rows of one slot behind those of the other. */
        private final int[][] slotRows = new int[SLOTS * AMOUNT][ROW];
        private final byte[] isKept = new byte[SLOTS];
        private final int[] factor = new int[ROW];
        private final int[] product = new int[ROW];
        private final int[] spare = new int[ROW];

        Elements(Shape shape, Nought nought) {
            this.shape = shape;
            this.nought = nought;
        }

        boolean has(int e) {
            return e >= 0 && e < AMOUNT;
        }

        void forget() {
            for (int e = 0; e < AMOUNT; e++) {
                Arrays.fill(rows[e], 0);
            }
            for (int slot = 0; slot < SLOTS; slot++) {
                isKept[slot] = 0;
            }
        }

        void become(int e, int[] row) {
            System.arraycopy(row, 0, rows[e], 0, ROW);
        }

        int coefficient(int e, int at) {
            return has(e) && at >= 0 && at < ROW ? rows[e][at] : 0;
        }

        void set(int e, int at, int c) {
            if (has(e) && at >= 0 && at < ROW) {
                rows[e][at] = shape.rest(c);
            }
        }

        int amountOf(int e) {
            int found = 0;
            for (int i = 0; i < ROW; i++) {
                found += rows[e][i] != 0 ? 1 : 0;
            }
            return found;
        }

        /** The code of the greatest word, NOT_TOLD for nought. */
        int greatestOf(int e) {
            int at = shape.greatestIn(rows[e]);
            return at == NONE ? NOT_TOLD : shape.codeAt(at);
        }

        void combine(int to, int a, int b, int c) {
            int times = shape.rest(c);
            for (int i = 0; i < ROW; i++) {
                rows[to][i] = shape.rest(rows[a][i] + times * rows[b][i]);
            }
        }

        /** a * b, less b * a if asked for; false: there is no room for one of its words, even if it would be lifted. */
        boolean multiplyInto(int to, int a, int b, boolean lessTurned) {
            if (isTooLong(rows[a], rows[b])) {
                return false;
            }
            Arrays.fill(spare, 0);
            shape.addProduct(spare, rows[a], rows[b], 1);
            if (lessTurned) {
                shape.addProduct(spare, rows[b], rows[a], -1);
            }
            become(to, spare);
            return true;
        }

        private boolean isTooLong(int[] a, int[] b) {
            int topA = shape.topOf(a);
            int topB = shape.topOf(b);
            return topA != NONE && topB != NONE && topA + topB > shape.longest();
        }

        void makePlain(int e) {
            nought.makePlain(rows[e], spare);
            become(e, spare);
        }

        int leastPower(int e) {
            nought.makePlain(rows[e], factor);
            System.arraycopy(factor, 0, product, 0, ROW);
            for (int k = 1; k <= MOST_FACTORS; k++) {
                if (shape.topOf(product) == NONE) {
                    return k;
                }
                if (isTooLong(product, factor)) {
                    return NOT_TOLD;
                }
                Arrays.fill(spare, 0);
                shape.addProduct(spare, product, factor, 1);
                nought.makePlain(spare, product);
            }
            return NOT_TOLD;
        }

        boolean differByNought(int a, int b) {
            for (int i = 0; i < ROW; i++) {
                spare[i] = shape.rest(rows[a][i] - rows[b][i]);
            }
            nought.makePlain(spare, product);
            return shape.topOf(product) == NONE;
        }

        boolean keep(int slot) {
            if (slot < 0 || slot >= SLOTS) {
                return false;
            }
            for (int e = 0; e < AMOUNT; e++) {
                System.arraycopy(rows[e], 0, slotRows[slot * AMOUNT + e], 0, ROW);
            }
            isKept[slot] = 1;
            return true;
        }

        boolean takeBack(int slot) {
            if (slot < 0 || slot >= SLOTS || isKept[slot] == 0) {
                return false;
            }
            for (int e = 0; e < AMOUNT; e++) {
                System.arraycopy(slotRows[slot * AMOUNT + e], 0, rows[e], 0, ROW);
            }
            return true;
        }

        int slotsKept() {
            int found = 0;
            for (int slot = 0; slot < SLOTS; slot++) {
                found += isKept[slot];
            }
            return found;
        }
    }
}
