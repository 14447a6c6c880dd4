import java.math.BigInteger;
import java.util.ArrayList;
import java.util.HashMap;
import java.util.HashSet;
import java.util.LinkedHashMap;
import java.util.List;
import java.util.Map;
import java.util.Set;
import java.util.TreeMap;
import java.util.regex.Matcher;
import java.util.regex.Pattern;

/**
 * The document's face by its definitions, word for word and without any care for speed: words are texts of the
 * signs '0' .. '3', sums are maps. It shares no code and no way of working with the program that it is a test for.
 */
final class SlowAlgebra {
    static final int NONE = -1;

    /** Words by length, then by their letters. */
    private static int compareWords(String a, String b) {
        return a.length() != b.length() ? Integer.compare(a.length(), b.length()) : a.compareTo(b);
    }

    private static final class Fault extends RuntimeException {
        private static final long serialVersionUID = 1;
        final int number;
        final int place;

        Fault(int number, int place) {
            this.number = number;
            this.place = place;
        }
    }

    private record Token(String text, int place) {
    }

    private static final Pattern TOKEN = Pattern.compile("[a-z]+|[0-9]+|[;=+()-]|[^ \\t\\n\\r]", Pattern.DOTALL);

    private static List<Token> cut(String text) {
        List<Token> all = new ArrayList<>();
        Matcher m = TOKEN.matcher(text);
        while (m.find()) {
            all.add(new Token(m.group(), m.start()));
        }
        return all;
    }

    private static boolean isName(String t) {
        return t.matches("[a-z]{1,8}") && !t.equals("prime") && !t.equals("letter") && !t.equals("to") && !t.equals("law");
    }

    private static boolean isInt(String t) {
        return t.matches("[0-9]{1,4}");
    }

    /** A sum as a tree: T's with signs; a T has a number and factors; a factor is a NAME or a sum. */
    private static final class Tree {
        final List<Term> terms = new ArrayList<>();
    }

    private static final class Term {
        int sign = 1;
        int number = 1;
        final List<Object> factors = new ArrayList<>();
    }

    private record Use(String name, int place) {
    }

    private record Told(String kind, int place, Token argument, Tree first, Tree second) {
    }

    /** Goes down the grammar from left to right; the first fault it meets is the first by place. */
    private static final class Parser {
        final List<Token> tokens;
        final int end;
        int next;
        int depth;
        int letters;
        int laws;

        Parser(String text) {
            tokens = cut(text);
            end = text.length();
        }

        String ahead() {
            return next < tokens.size() ? tokens.get(next).text() : "";
        }

        Fault syntax() {
            return new Fault(1, next < tokens.size() ? tokens.get(next).place() : end);
        }

        Token take(boolean fits) {
            if (!fits) {
                throw syntax();
            }
            Token t = tokens.get(next);
            if (next >= 400) {
                throw new Fault(2, t.place());
            }
            next++;
            return t;
        }

        List<Told> text() {
            List<Told> all = new ArrayList<>();
            while (next < tokens.size()) {
                all.add(tell());
            }
            return all;
        }

        Told tell() {
            String kind = ahead();
            Token first = take(kind.equals("prime") || kind.equals("letter") || kind.equals("to") || kind.equals("law"));
            Told told;
            if (kind.equals("law")) {
                laws++;
                if (laws > 8) {
                    throw new Fault(2, first.place());
                }
                Tree one = sum();
                Tree two = null;
                if (ahead().equals("=")) {
                    take(true);
                    two = sum();
                }
                told = new Told(kind, first.place(), null, one, two);
            } else if (kind.equals("letter")) {
                letters++;
                if (letters > 4) {
                    throw new Fault(2, first.place());
                }
                told = new Told(kind, first.place(), take(isName(ahead())), null, null);
            } else {
                told = new Told(kind, first.place(), take(isInt(ahead())), null, null);
            }
            take(ahead().equals(";"));
            return told;
        }

        Tree sum() {
            Tree tree = new Tree();
            int sign = 1;
            if (ahead().equals("-")) {
                take(true);
                sign = -1;
            }
            while (true) {
                Term t = term();
                t.sign = sign;
                tree.terms.add(t);
                if (ahead().equals("+")) {
                    sign = 1;
                } else if (ahead().equals("-")) {
                    sign = -1;
                } else {
                    return tree;
                }
                take(true);
            }
        }

        Term term() {
            Term t = new Term();
            if (isInt(ahead())) {
                t.number = Integer.parseInt(take(true).text());
            } else {
                t.factors.add(factor());
            }
            while (isName(ahead()) || ahead().equals("(")) {
                t.factors.add(factor());
            }
            return t;
        }

        Object factor() {
            if (ahead().equals("(")) {
                Token open = take(true);
                depth++;
                if (depth > 4) {
                    throw new Fault(2, open.place());
                }
                Tree inner = sum();
                take(ahead().equals(")"));
                depth--;
                return inner;
            }
            Token t = take(isName(ahead()));
            return new Use(t.text(), t.place());
        }
    }

    private int p = 97;
    private int n;
    private int top = 7;
    private List<String> names = new ArrayList<>();
    private List<Map<String, Integer>> laws = new ArrayList<>();
    private final List<TreeMap<String, Integer>> elements = new ArrayList<>();
    private final Map<Integer, List<TreeMap<String, Integer>>> slots = new HashMap<>();
    private StringBuilder tape = new StringBuilder();
    private int place = NONE;
    private Map<Integer, TreeMap<String, Map<String, Integer>>> rules = new HashMap<>();

    SlowAlgebra() {
        read();
    }

    private static TreeMap<String, Integer> nothing() {
        return new TreeMap<>(SlowAlgebra::compareWords);
    }

    // ---- the tape

    int feed(int a, int b, int c, int d, int e) {
        if (tape.length() + 20 > 2000) {
            return NONE;
        }
        for (int v : new int[] {a, b, c, d, e}) {
            tape.append((char) (v >>> 24)).append((char) (v >>> 16 & 255)).append((char) (v >>> 8 & 255)).append((char) (v & 255));
        }
        return tape.length();
    }

    int back(int m) {
        if (m < 0 || m > tape.length()) {
            return NONE;
        }
        tape.setLength(tape.length() - m);
        return tape.length();
    }

    int read() {
        String text = tape.toString();
        tape = new StringBuilder();
        place = NONE;
        try {
            take(text);
            return 0;
        } catch (Fault f) {
            place = f.place;
            return f.number;
        }
    }

    int element(int e) {
        if (e < 0 || e > 5) {
            return NONE;
        }
        String text = tape.toString();
        tape = new StringBuilder();
        place = NONE;
        try {
            Parser parser = new Parser(text);
            Tree tree = parser.sum();
            if (parser.next < parser.tokens.size()) {
                throw parser.syntax();
            }
            checkNames(tree, names);
            if (longOf(tree) > top) {
                throw new Fault(7, 0);
            }
            elements.set(e, valueOf(tree, names, p));
            return 0;
        } catch (Fault f) {
            place = f.place;
            return f.number;
        }
    }

    int place() {
        return place;
    }

    private void take(String text) {
        List<Told> told = new Parser(text).text();
        List<String> newNames = new ArrayList<>();
        int newPrime = 97;
        int newTop = 0;
        int topPlace = 0;
        for (Told t : told) {
            int value = t.kind().equals("prime") || t.kind().equals("to") ? Integer.parseInt(t.argument().text()) : 0;
            switch (t.kind()) {
                case "letter" -> {
                    if (newNames.contains(t.argument().text())) {
                        throw new Fault(3, t.argument().place());
                    }
                    newNames.add(t.argument().text());
                }
                case "prime" -> {
                    if (value > 97 || !BigInteger.valueOf(value).isProbablePrime(50)) {
                        throw new Fault(5, t.argument().place());
                    }
                    newPrime = value;
                }
                case "to" -> {
                    if (value < 1 || value > 7) {
                        throw new Fault(5, t.argument().place());
                    }
                    newTop = value;
                    topPlace = t.argument().place();
                }
                default -> {
                    checkNames(t.first(), newNames);
                    if (t.second() != null) {
                        checkNames(t.second(), newNames);
                    }
                }
            }
        }
        if (newTop > 0 && Math.pow(newNames.size(), newTop) > 256) {
            throw new Fault(6, topPlace);
        }
        for (int d = 1; d <= 7 && topPlace == 0; d++) {
            newTop = Math.pow(newNames.size(), d) <= 256 ? d : newTop;
        }
        List<Map<String, Integer>> newLaws = new ArrayList<>();
        for (Told t : told) {
            if (t.kind().equals("law")) {
                newLaws.add(lawOf(t, newNames, newPrime, newTop));
            }
        }
        p = newPrime;
        n = newNames.size();
        top = newTop;
        names = newNames;
        laws = newLaws;
        slots.clear();
        rules = new HashMap<>();
        elements.clear();
        for (int e = 0; e < 6; e++) {
            elements.add(nothing());
        }
    }

    private static Map<String, Integer> lawOf(Told t, List<String> names, int p, int top) {
        if (longOf(t.first()) > top || t.second() != null && longOf(t.second()) > top) {
            throw new Fault(7, t.place());
        }
        TreeMap<String, Integer> law = valueOf(t.first(), names, p);
        if (t.second() != null) {
            for (Map.Entry<String, Integer> w : valueOf(t.second(), names, p).entrySet()) {
                count(law, w.getKey(), -w.getValue(), p);
            }
        }
        Set<Integer> lengths = new HashSet<>();
        for (String w : law.keySet()) {
            lengths.add(w.length());
        }
        if (lengths.size() > 1 || lengths.contains(0)) {
            throw new Fault(7, t.place());
        }
        return law;
    }

    private static void checkNames(Tree tree, List<String> names) {
        for (Term t : tree.terms) {
            for (Object f : t.factors) {
                if (f instanceof Use u && !names.contains(u.name())) {
                    throw new Fault(4, u.place());
                } else if (f instanceof Tree inner) {
                    checkNames(inner, names);
                }
            }
        }
    }

    private static int longOf(Tree tree) {
        int most = 0;
        for (Term t : tree.terms) {
            int all = 0;
            for (Object f : t.factors) {
                all += f instanceof Tree inner ? longOf(inner) : 1;
            }
            most = Math.max(most, all);
        }
        return most;
    }

    private static void count(Map<String, Integer> sum, String word, long by, int p) {
        int c = (int) Math.floorMod(sum.getOrDefault(word, 0) + by, (long) p);
        if (c == 0) {
            sum.remove(word);
        } else {
            sum.put(word, c);
        }
    }

    private static TreeMap<String, Integer> times(Map<String, Integer> a, Map<String, Integer> b, int p) {
        TreeMap<String, Integer> all = nothing();
        for (Map.Entry<String, Integer> u : a.entrySet()) {
            for (Map.Entry<String, Integer> v : b.entrySet()) {
                count(all, u.getKey() + v.getKey(), (long) u.getValue() * v.getValue(), p);
            }
        }
        return all;
    }

    private static TreeMap<String, Integer> valueOf(Tree tree, List<String> names, int p) {
        TreeMap<String, Integer> sum = nothing();
        for (Term t : tree.terms) {
            TreeMap<String, Integer> product = nothing();
            count(product, "", (long) t.sign * t.number, p);
            for (Object f : t.factors) {
                Map<String, Integer> factor = f instanceof Tree inner ? valueOf(inner, names, p)
                        : Map.of(String.valueOf(names.indexOf(((Use) f).name())), 1);
                product = times(product, factor, p);
            }
            for (Map.Entry<String, Integer> w : product.entrySet()) {
                count(sum, w.getKey(), w.getValue(), p);
            }
        }
        return sum;
    }

    // ---- words and their codes

    private List<String> allWords(int d) {
        List<String> all = new ArrayList<>();
        all.add("");
        for (int i = 0; i < d; i++) {
            List<String> longer = new ArrayList<>();
            for (String w : all) {
                for (int x = 0; x < n; x++) {
                    longer.add(w + x);
                }
            }
            all = longer;
        }
        return all;
    }

    private int numberOf(String w) {
        int number = 0;
        for (char c : w.toCharArray()) {
            number = number * n + c - '0';
        }
        return number;
    }

    private int codeOf(String w) {
        return 1000 * w.length() + numberOf(w);
    }

    /** null: no such word. */
    private String wordOf(int code) {
        if (code < 0 || code / 1000 > top) {
            return null;
        }
        for (String w : allWords(code / 1000)) {
            if (codeOf(w) == code) {
                return w;
            }
        }
        return null;
    }

    private boolean hasElement(int e) {
        return e >= 0 && e < 6;
    }

    private boolean hasDegree(int d) {
        return d >= 0 && d <= top;
    }

    // ---- nought and plain forms

    /** For each leading word something in nought of which it is the greatest, where it counts 1. */
    private TreeMap<String, Map<String, Integer>> rules(int d) {
        if (!rules.containsKey(d)) {
            List<Map<String, Integer>> all = new ArrayList<>();
            for (Map<String, Integer> law : laws) {
                int spare = law.isEmpty() ? -1 : d - law.keySet().iterator().next().length();
                for (int ahead = 0; ahead <= spare; ahead++) {
                    for (String u : allWords(ahead)) {
                        for (String v : allWords(spare - ahead)) {
                            all.add(times(times(Map.of(u, 1), law, p), Map.of(v, 1), p));
                        }
                    }
                }
            }
            rules.put(d, echelon(all, p));
        }
        return rules.get(d);
    }

    private static TreeMap<String, Map<String, Integer>> echelon(List<Map<String, Integer>> all, int p) {
        TreeMap<String, Map<String, Integer>> kept = new TreeMap<>(SlowAlgebra::compareWords);
        for (Map<String, Integer> one : all) {
            TreeMap<String, Integer> sum = nothing();
            sum.putAll(one);
            while (!sum.isEmpty()) {
                String lead = sum.lastKey();
                int c = sum.get(lead);
                if (!kept.containsKey(lead)) {
                    int scale = BigInteger.valueOf(c).modInverse(BigInteger.valueOf(p)).intValue();
                    TreeMap<String, Integer> scaled = nothing();
                    for (Map.Entry<String, Integer> w : sum.entrySet()) {
                        count(scaled, w.getKey(), (long) w.getValue() * scale, p);
                    }
                    kept.put(lead, scaled);
                    break;
                }
                for (Map.Entry<String, Integer> w : kept.get(lead).entrySet()) {
                    count(sum, w.getKey(), -(long) c * w.getValue(), p);
                }
            }
        }
        return kept;
    }

    private TreeMap<String, Integer> plainOf(Map<String, Integer> a) {
        TreeMap<String, Integer> left = nothing();
        left.putAll(a);
        TreeMap<String, Integer> plain = nothing();
        while (!left.isEmpty()) {
            String w = left.lastKey();
            int c = left.get(w);
            Map<String, Integer> rule = rules(w.length()).get(w);
            if (rule == null) {
                plain.put(w, c);
                left.remove(w);
            } else {
                for (Map.Entry<String, Integer> other : rule.entrySet()) {
                    count(left, other.getKey(), -(long) c * other.getValue(), p);
                }
            }
        }
        return plain;
    }

    private boolean leading(String w) {
        return rules(w.length()).containsKey(w);
    }

    private List<String> normals(int d) {
        List<String> all = new ArrayList<>();
        for (String w : allWords(d)) {
            if (!leading(w)) {
                all.add(w);
            }
        }
        return all;
    }

    private Map<Integer, List<String>> basisKnown = new HashMap<>();
    private Map<Integer, TreeMap<String, Map<String, Integer>>> basisOfRules;

    private List<String> basis(int d) {
        if (basisOfRules != rules) {
            basisKnown = new HashMap<>();
            basisOfRules = rules;
        }
        if (!basisKnown.containsKey(d)) {
            List<String> all = new ArrayList<>();
            for (String w : allWords(d)) {
                boolean least = leading(w);
                for (int from = 0; from < d; from++) {
                    for (int to = from + 1; to <= d; to++) {
                        least = least && (to - from == d || !leading(w.substring(from, to)));
                    }
                }
                if (least) {
                    all.add(w);
                }
            }
            basisKnown.put(d, all);
        }
        return basisKnown.get(d);
    }

    private List<String> basis() {
        List<String> all = new ArrayList<>();
        for (int d = 0; d <= top; d++) {
            all.addAll(basis(d));
        }
        return all;
    }

    // ---- elements

    int counts(int e, int word) {
        String w = wordOf(word);
        return hasElement(e) && w != null ? elements.get(e).getOrDefault(w, 0) : NONE;
    }

    int words(int e, int what) {
        if (!hasElement(e) || what != 0 && what != 1) {
            return NONE;
        }
        if (what == 0) {
            return elements.get(e).size();
        }
        return elements.get(e).isEmpty() ? -2 : codeOf(elements.get(e).lastKey());
    }

    boolean put(int e, int word, int c) {
        String w = wordOf(word);
        if (!hasElement(e) || w == null) {
            return false;
        }
        elements.get(e).remove(w);
        count(elements.get(e), w, c, p);
        return true;
    }

    private TreeMap<String, Integer> plus(Map<String, Integer> a, Map<String, Integer> b, int c) {
        TreeMap<String, Integer> sum = nothing();
        sum.putAll(a);
        for (Map.Entry<String, Integer> w : b.entrySet()) {
            count(sum, w.getKey(), (long) c * w.getValue(), p);
        }
        return sum;
    }

    boolean add(int to, int a, int b, int c) {
        if (!hasElement(to) || !hasElement(a) || !hasElement(b)) {
            return false;
        }
        elements.set(to, plus(elements.get(a), elements.get(b), c));
        return true;
    }

    private boolean tooLong(Map<String, Integer> a, Map<String, Integer> b) {
        for (String u : a.keySet()) {
            for (String v : b.keySet()) {
                if (u.length() + v.length() > top) {
                    return true;
                }
            }
        }
        return false;
    }

    int multiply(int to, int a, int b) {
        return product(to, a, b, false);
    }

    int commute(int to, int a, int b) {
        return product(to, a, b, true);
    }

    private int product(int to, int a, int b, boolean less) {
        if (!hasElement(to) || !hasElement(a) || !hasElement(b)) {
            return NONE;
        }
        Map<String, Integer> one = elements.get(a);
        Map<String, Integer> two = elements.get(b);
        if (tooLong(one, two)) {
            return -2;
        }
        TreeMap<String, Integer> all = times(one, two, p);
        elements.set(to, less ? plus(all, times(two, one, p), -1) : all);
        return 0;
    }

    int plain(int e) {
        if (!hasElement(e)) {
            return NONE;
        }
        elements.set(e, plainOf(elements.get(e)));
        return elements.get(e).size();
    }

    int power(int e) {
        if (!hasElement(e)) {
            return NONE;
        }
        TreeMap<String, Integer> factor = plainOf(elements.get(e));
        TreeMap<String, Integer> now = factor;
        for (int k = 1; k <= 7; k++) {
            if (now.isEmpty()) {
                return k;
            }
            if (tooLong(now, factor)) {
                return -2;
            }
            now = plainOf(times(now, factor, p));
        }
        return -2;
    }

    int alike(int a, int b) {
        if (!hasElement(a) || !hasElement(b)) {
            return NONE;
        }
        return plainOf(elements.get(a)).equals(plainOf(elements.get(b))) ? 1 : 0;
    }

    // ---- degrees

    int size(int d) {
        return hasDegree(d) ? normals(d).size() : NONE;
    }

    int normal(int d, int i) {
        return hasDegree(d) && i >= 0 && i < normals(d).size() ? numberOf(normals(d).get(i)) : NONE;
    }

    int form(int word, int other) {
        String w = wordOf(word);
        String o = wordOf(other);
        return w == null || o == null ? NONE : plainOf(Map.of(o, 1)).getOrDefault(w, 0);
    }

    int table(int u, int v, int w) {
        String a = wordOf(u);
        String b = wordOf(v);
        String c = wordOf(w);
        if (a == null || b == null || c == null) {
            return NONE;
        }
        return a.length() + b.length() > top ? -2 : plainOf(Map.of(a + b, 1)).getOrDefault(c, 0);
    }

    int base(int d) {
        return hasDegree(d) ? basis(d).size() : NONE;
    }

    int baseAt(int d, int i) {
        return hasDegree(d) && i >= 0 && i < basis(d).size() ? numberOf(basis(d).get(i)) : NONE;
    }

    boolean closed() {
        for (String u : basis()) {
            for (String v : basis()) {
                for (int k = 1; k <= u.length() && k <= v.length(); k++) {
                    boolean whole = k == u.length() || k == v.length();
                    if (!whole && u.endsWith(v.substring(0, k)) && u.length() + v.length() - k > top) {
                        return false;
                    }
                }
            }
        }
        return true;
    }

    private boolean isLeft(String w) {
        for (String b : basis()) {
            if (w.contains(b)) {
                return false;
            }
        }
        return true;
    }

    long left(int m) {
        if (m < 0 || m > 60) {
            return -1;
        }
        int most = 1;
        for (String b : basis()) {
            most = Math.max(most, b.length());
        }
        Map<String, BigInteger> now = new HashMap<>();
        now.put("", BigInteger.ONE);
        Map<String, Boolean> known = new HashMap<>();
        for (int i = 0; i < m; i++) {
            Map<String, BigInteger> then = new HashMap<>();
            for (Map.Entry<String, BigInteger> w : now.entrySet()) {
                for (int x = 0; x < n; x++) {
                    String longer = w.getKey() + x;
                    if (!known.computeIfAbsent(longer, this::isLeft)) {
                        continue;
                    }
                    String kept = longer.substring(Math.max(0, longer.length() - most + 1));
                    then.merge(kept, w.getValue(), BigInteger::add);
                }
            }
            now = then;
        }
        BigInteger all = BigInteger.ZERO;
        for (BigInteger ways : now.values()) {
            all = all.add(ways);
        }
        return all.min(BigInteger.valueOf(Long.MAX_VALUE)).longValue();
    }

    int growth() {
        int longest = 0;
        for (String b : basis()) {
            longest = Math.max(longest, b.length());
        }
        Map<String, Set<String>> ways = new LinkedHashMap<>();
        for (String w : allWords(Math.max(1, longest - 1))) {
            if (isLeft(w)) {
                Set<String> to = new HashSet<>();
                for (int x = 0; x < n; x++) {
                    if (isLeft(w + x)) {
                        to.add((w + x).substring(1));
                    }
                }
                ways.put(w, to);
            }
        }
        Map<String, Set<String>> reach = new HashMap<>();
        for (String w : ways.keySet()) {
            Set<String> seen = new HashSet<>();
            spread(w, ways, seen);
            reach.put(w, seen);
        }
        for (String w : ways.keySet()) {
            int backs = 0;
            for (String to : ways.get(w)) {
                backs += to.equals(w) || reach.get(to).contains(w) ? 1 : 0;
            }
            if (backs > 1) {
                return -2;
            }
        }
        int most = 0;
        for (String w : ways.keySet()) {
            most = Math.max(most, circles(w, reach));
        }
        return most;
    }

    private static void spread(String w, Map<String, Set<String>> ways, Set<String> seen) {
        for (String to : ways.get(w)) {
            if (seen.add(to)) {
                spread(to, ways, seen);
            }
        }
    }

    private static int circles(String w, Map<String, Set<String>> reach) {
        if (!reach.get(w).contains(w)) {
            return 0;
        }
        int most = 0;
        for (String to : reach.get(w)) {
            if (!reach.get(to).contains(w)) {
                most = Math.max(most, circles(to, reach));
            }
        }
        return most + 1;
    }

    int chains(int m, int d) {
        return m >= 0 && m <= 4 && hasDegree(d) ? countChains(m, d, null) : NONE;
    }

    /** How many ways there are to go on by so many steps and letters behind a last step. */
    private int countChains(int steps, int letters, String last) {
        if (last == null) {
            int all = 0;
            for (int x = 0; x < n && letters > 0; x++) {
                String letter = String.valueOf(x);
                all += isLeft(letter) ? countChains(steps, letters - 1, letter) : 0;
            }
            return all;
        }
        if (steps == 0) {
            return letters == 0 ? 1 : 0;
        }
        int all = 0;
        for (int more = 1; more <= letters; more++) {
            for (String u : allWords(more)) {
                if (isLeft(u) && endsInOne(last + u)) {
                    all += countChains(steps - 1, letters - more, u);
                }
            }
        }
        return all;
    }

    private boolean endsInOne(String w) {
        int found = 0;
        boolean atEnd = false;
        for (String b : basis()) {
            for (int at = w.indexOf(b); at >= 0; at = w.indexOf(b, at + 1)) {
                found++;
                atEnd = at + b.length() == w.length();
            }
        }
        return found == 1 && atEnd;
    }

    private boolean quadratic() {
        for (Map<String, Integer> law : laws) {
            for (String w : law.keySet()) {
                if (w.length() != 2) {
                    return false;
                }
            }
        }
        return true;
    }

    /** All laws are tried that have their last word free: by rows of the null space. */
    private SlowAlgebra mirror() {
        SlowAlgebra dual = new SlowAlgebra();
        dual.p = p;
        dual.n = n;
        dual.top = top;
        dual.laws = new ArrayList<>();
        dual.rules = new HashMap<>();
        TreeMap<String, Map<String, Integer>> rows = new TreeMap<>(SlowAlgebra::compareWords);
        List<Map<String, Integer>> given = new ArrayList<>(laws);
        given.removeIf(Map::isEmpty);
        rows.putAll(echelon(given, p));
        for (String free : allWords(2)) {
            if (rows.containsKey(free)) {
                continue;
            }
            // From the least leading word on: each row then has one word whose count is not chosen yet, its own.
            TreeMap<String, Integer> law = nothing();
            law.put(free, 1);
            for (Map.Entry<String, Map<String, Integer>> row : rows.entrySet()) {
                long all = 0;
                for (Map.Entry<String, Integer> w : row.getValue().entrySet()) {
                    all += (long) w.getValue() * law.getOrDefault(w.getKey(), 0);
                }
                count(law, row.getKey(), -all, p);
            }
            dual.laws.add(law);
        }
        return dual;
    }

    int dual(int d) {
        if (!hasDegree(d)) {
            return NONE;
        }
        return quadratic() ? mirror().size(d) : -2;
    }

    int bent() {
        if (!quadratic()) {
            return -3;
        }
        SlowAlgebra other = mirror();
        for (int d = 1; d <= top; d++) {
            int sum = 0;
            for (int i = 0; i <= d; i++) {
                sum += ((d - i) % 2 == 0 ? 1 : -1) * size(i) * other.size(d - i);
            }
            if (sum != 0) {
                return d;
            }
        }
        return -2;
    }

    long inverse(int d) {
        if (!hasDegree(d)) {
            return -9223372036854775807L;
        }
        if (d == 0) {
            return 1;
        }
        long all = 0;
        for (int i = 0; i < d; i++) {
            all -= inverse(i) * size(d - i);
        }
        return all;
    }

    int centre(int d) {
        if (d < 0 || d >= top) {
            return NONE;
        }
        List<Map<String, Integer>> images = new ArrayList<>();
        for (String w : normals(d)) {
            TreeMap<String, Integer> image = nothing();
            for (int x = 0; x < n; x++) {
                TreeMap<String, Integer> both = nothing();
                count(both, x + w, 1, p);
                count(both, w + x, -1, p);
                for (Map.Entry<String, Integer> part : plainOf(both).entrySet()) {
                    image.put(x + ":" + part.getKey(), part.getValue());
                }
            }
            images.add(image);
        }
        return images.size() - echelon(images, p).size();
    }

    int rank(int letter, int d, boolean right) {
        if (letter < 0 || letter >= n || d < 0 || d >= top) {
            return NONE;
        }
        List<Map<String, Integer>> images = new ArrayList<>();
        for (String w : allWords(d)) {
            images.add(plainOf(Map.of(right ? w + letter : letter + w, 1)));
        }
        return echelon(images, p).size();
    }

    int points() {
        return ways(1, 100000);
    }

    int modules() {
        return ways(2, 65536);
    }

    private int ways(int side, int most) {
        int digits = n * side * side;
        if (BigInteger.valueOf(p).pow(digits).compareTo(BigInteger.valueOf(most)) > 0) {
            return -2;
        }
        int all = BigInteger.valueOf(p).pow(digits).intValue();
        int found = 0;
        for (int way = 0; way < all; way++) {
            int[][] squares = new int[n][side * side];
            int rest = way;
            for (int i = 0; i < digits; i++) {
                squares[i / (side * side)][i % (side * side)] = rest % p;
                rest /= p;
            }
            found += allHold(squares, side) ? 1 : 0;
        }
        return found;
    }

    private boolean allHold(int[][] squares, int side) {
        for (Map<String, Integer> law : laws) {
            int[] sum = new int[side * side];
            for (Map.Entry<String, Integer> w : law.entrySet()) {
                int[] product = squares[w.getKey().charAt(0) - '0'];
                for (int j = 1; j < w.getKey().length(); j++) {
                    product = product(product, squares[w.getKey().charAt(j) - '0'], side);
                }
                for (int i = 0; i < sum.length; i++) {
                    sum[i] = (sum[i] + w.getValue() * product[i]) % p;
                }
            }
            for (int s : sum) {
                if (s != 0) {
                    return false;
                }
            }
        }
        return true;
    }

    private int[] product(int[] a, int[] b, int side) {
        if (side == 1) {
            return new int[] {a[0] * b[0] % p};
        }
        return new int[] {(a[0] * b[0] + a[1] * b[2]) % p, (a[0] * b[1] + a[1] * b[3]) % p,
            (a[2] * b[0] + a[3] * b[2]) % p, (a[2] * b[1] + a[3] * b[3]) % p};
    }

    int weight() {
        int all = 0;
        boolean ends = false;
        for (int d = 0; d <= top; d++) {
            all += size(d);
            ends = ends || size(d) == 0;
        }
        return ends ? all : -2;
    }

    int trace(int e) {
        if (!hasElement(e)) {
            return NONE;
        }
        if (weight() == -2) {
            return -2;
        }
        long all = 0;
        for (int d = 0; d <= top; d++) {
            for (String w : normals(d)) {
                TreeMap<String, Integer> product = times(elements.get(e), Map.of(w, 1), p);
                product.keySet().removeIf(word -> word.length() > top);
                all += plainOf(product).getOrDefault(w, 0);
            }
        }
        return (int) (all % p);
    }

    boolean hold(int slot) {
        if (slot < 0 || slot > 2) {
            return false;
        }
        slots.put(slot, copyOf(elements));
        return true;
    }

    boolean restore(int slot) {
        if (!slots.containsKey(slot)) {
            return false;
        }
        List<TreeMap<String, Integer>> held = copyOf(slots.get(slot));
        elements.clear();
        elements.addAll(held);
        return true;
    }

    private static List<TreeMap<String, Integer>> copyOf(List<TreeMap<String, Integer>> all) {
        List<TreeMap<String, Integer>> copy = new ArrayList<>();
        for (TreeMap<String, Integer> one : all) {
            TreeMap<String, Integer> sum = nothing();
            sum.putAll(one);
            copy.add(sum);
        }
        return copy;
    }

    int count(int what) {
        int noughts = 0;
        for (Map<String, Integer> law : laws) {
            noughts += law.isEmpty() ? 1 : 0;
        }
        if (what >= 10 && what < 10 + laws.size()) {
            Map<String, Integer> law = laws.get(what - 10);
            return law.isEmpty() ? 0 : law.keySet().iterator().next().length();
        }
        return switch (what) {
            case 0 -> p;
            case 1 -> n;
            case 2 -> top;
            case 3 -> laws.size();
            case 4 -> noughts;
            case 5 -> tape.length();
            case 6 -> slots.size();
            case 7 -> basis().size();
            default -> NONE;
        };
    }
}
