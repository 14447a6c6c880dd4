import java.util.Random;

/** Makes texts: most of them without a fault, some with a few signs or tokens turned. */
final class Texts {
    private static final int[] PRIMES = {2, 2, 3, 3, 5, 7, 11, 13, 17, 19, 43, 47, 89, 97};
    private static final String[] TOKENS = {"prime", "letter", "to", "law", "x", "y", "z", "w", "abcdefgh", "abcdefghi", "2", "3", "0",
        "97", "9999", "12345", ";", "=", "+", "-", "(", ")", ".", "X", "\u00e9", "law ", "letter q;", "(((((", "x x x x x x x x"};
    private static final String[] NAMES = {"x", "y", "z", "w"};

    private final Random random;

    Texts(Random random) {
        this.random = random;
    }

    private int upTo(int n) {
        return random.nextInt(n + 1);
    }

    private <T> T oneOf(T[] all) {
        return all[random.nextInt(all.length)];
    }

    /** A text for so many letters at most. */
    String text(int mostLetters) {
        int letters = random.nextInt(10) == 0 ? 0 : 1 + random.nextInt(mostLetters);
        int longest = letters < 3 ? 7 : letters == 3 ? 5 : 4;
        StringBuilder all = new StringBuilder();
        if (random.nextInt(5) > 0) {
            int prime = random.nextInt(50) == 0 ? random.nextInt(110) : PRIMES[random.nextInt(PRIMES.length)];
            all.append("prime ").append(prime).append(blank()).append(';').append(blank());
        }
        for (int i = 0; i < letters; i++) {
            all.append("letter ").append(NAMES[i]).append(';').append(blank());
        }
        int degree = longest;
        if (random.nextInt(3) > 0) {
            degree = random.nextInt(50) == 0 ? random.nextInt(10) : 1 + random.nextInt(longest);
            all.append("to ").append(degree).append(';');
            degree = Math.max(1, Math.min(degree, longest));
        }
        int laws = letters == 0 ? 0 : random.nextInt(6) == 0 ? upTo(8) : upTo(3);
        boolean wordsAlone = letters > 1 && random.nextInt(8) == 0;
        laws = wordsAlone ? 3 + upTo(5) : laws;
        for (int i = 0; i < laws; i++) {
            String law = wordsAlone ? word(letters, 1 + random.nextInt(degree)) : law(letters, degree);
            all.append("law ").append(law).append(';').append(blank());
        }
        return all.toString();
    }

    private String blank() {
        return random.nextInt(4) == 0 ? oneOf(new String[] {"\n", "\t", "\r", "  "}) : " ";
    }

    private String name(int letters) {
        return NAMES[random.nextInt(letters)];
    }

    private String word(int letters, int length) {
        StringBuilder all = new StringBuilder();
        for (int i = 0; i < length; i++) {
            all.append(i == 0 ? "" : " ").append(name(letters));
        }
        return all.toString();
    }

    private String law(int letters, int degree) {
        int length = 1 + random.nextInt(random.nextInt(3) == 0 ? degree : Math.min(degree, 3));
        if (degree >= 2 && random.nextInt(3) > 0) {
            length = 2;
        }
        switch (random.nextInt(9)) {
            case 0:
                return word(letters, length);
            case 1:
                return word(letters, length) + " - " + word(letters, length);
            case 2:
                return word(letters, length) + " = " + upTo(100) + " " + word(letters, length);
            case 3:
                return name(letters) + " - " + name(letters);
            case 4:
            case 5:
                if (degree >= 2) {
                    String x = name(letters);
                    String y = name(letters);
                    return x + " " + y + oneOf(new String[] {" - ", " + ", " - 2 ", " + 3 ", " = ", " = 0 - "}) + y + " " + x;
                }
                return name(letters);
            case 6:
                return product(letters, length);
            case 7:
                return product(letters, length) + " = " + product(letters, length);
            default:
                StringBuilder all = new StringBuilder(random.nextInt(3) == 0 ? "-" : "");
                int terms = 1 + upTo(4);
                for (int i = 0; i < terms; i++) {
                    all.append(i == 0 ? "" : random.nextBoolean() ? " + " : " - ");
                    all.append(random.nextBoolean() ? "" : upTo(100) + " ").append(word(letters, length));
                }
                return all.toString();
        }
    }

    private String product(int letters, int length) {
        StringBuilder all = new StringBuilder(random.nextInt(3) == 0 ? upTo(9) + "" : "");
        for (int i = 0; i < length; i++) {
            if (random.nextBoolean()) {
                all.append(" ").append(name(letters)).append(" ");
            } else {
                all.append("(").append(random.nextInt(4) == 0 ? "-" : "").append(name(letters)).append(random.nextBoolean() ? "+" : "-");
                all.append(random.nextBoolean() ? "" : upTo(9) + " ").append(name(letters)).append(")");
            }
        }
        return random.nextInt(4) == 0 ? "((" + all + "))" : all.toString();
    }

    /** An element's sum; with no letters a number. */
    String sum(int letters, int degree) {
        StringBuilder all = new StringBuilder(random.nextInt(3) == 0 ? "-" : "");
        int terms = 1 + upTo(4);
        for (int i = 0; i < terms; i++) {
            all.append(i == 0 ? "" : random.nextBoolean() ? " + " : " - ");
            int length = letters == 0 ? 0 : upTo(random.nextInt(4) == 0 ? degree : Math.min(3, degree));
            all.append(length == 0 || random.nextBoolean() ? upTo(100) + " " : "");
            all.append(length > 0 && random.nextInt(4) == 0 ? product(letters, length).replaceFirst("^[0-9]+", "") : word(Math.max(letters, 1), length));
        }
        return all.toString();
    }

    /** The text with a few tokens put in, signs taken out or turned. */
    String spoilt(String text) {
        StringBuilder all = new StringBuilder(text);
        int turns = 1 + upTo(2);
        for (int i = 0; i < turns; i++) {
            int at = random.nextInt(all.length() + 1);
            switch (random.nextInt(4)) {
                case 0:
                    all.insert(at, oneOf(TOKENS));
                    break;
                case 1:
                    all.insert(at, " " + oneOf(TOKENS) + " ");
                    break;
                case 2:
                    if (at < all.length()) {
                        all.deleteCharAt(at);
                    }
                    break;
                default:
                    if (at < all.length()) {
                        all.setLength(at);
                    }
                    break;
            }
        }
        return all.substring(0, Math.min(2000, all.length()));
    }

    /** Tokens of which each is likely to fit behind the one ahead, so that faults stand deep in the text. */
    String tokens(boolean asSum) {
        StringBuilder all = new StringBuilder();
        int amount = upTo(random.nextInt(10) == 0 ? 450 : 40);
        if (!asSum) {
            all.append(oneOf(new String[] {"letter x;letter y;", "letter x;", "letter x;letter y;letter z;", ""}));
        }
        int depth = 0;
        boolean factor = false;
        boolean inLaw = asSum;
        for (int i = 0; i < amount && all.length() < 1900; i++) {
            if (random.nextInt(60) == 0) {
                all.append(oneOf(TOKENS));
            } else if (!inLaw) {
                all.append(oneOf(new String[] {"prime 5;", "to 3;", "letter z;", "letter w ;", "law x", "law -2y", "law 3", "law(x"}));
                inLaw = all.charAt(all.length() - 1) != ';';
                factor = true;
                depth = all.charAt(all.length() - 2) == '(' ? 1 : 0;
            } else if (factor) {
                String next = oneOf(new String[] {"x", " y", "+", "-", "(", ")", ")", ";", ";", "="});
                if (next.equals(")") && depth == 0 || (next.equals(";") || next.equals("=")) && (depth > 0 || asSum)) {
                    next = " x";
                }
                depth += next.equals("(") ? 1 : next.equals(")") ? -1 : 0;
                inLaw = !next.equals(";");
                factor = !next.equals("+") && !next.equals("-") && !next.equals("(") && !next.equals("=");
                all.append(next.equals("x") ? " x" : next);
            } else {
                String next = oneOf(new String[] {"x", "y", "2", "3 x", "(", "(-"});
                depth += next.startsWith("(") ? 1 : 0;
                factor = !next.startsWith("(");
                all.append(next);
            }
        }
        while (random.nextInt(5) > 0 && depth > 0) {
            all.append(factor ? ")" : "x)");
            factor = true;
            depth--;
        }
        if (random.nextInt(5) > 0) {
            all.append(factor || asSum ? "" : inLaw ? "x" : "").append(inLaw && !asSum ? ";" : "");
        }
        return all.substring(0, Math.min(2000, all.length()));
    }
}
