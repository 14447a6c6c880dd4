import java.nio.charset.StandardCharsets;

/** Counts the answers that are not due, and feeds texts to a tape. */
final class Check {
    private final String test;
    private int wrong;
    private long asked;

    Check(String test) {
        this.test = test;
    }

    void due(String call, long got, long want) {
        asked++;
        if (got != want) {
            wrong++;
            if (wrong <= 40) {
                System.out.println(test + ": " + call + " answered " + got + ", due is " + want);
            }
        }
    }

    void due(String call, boolean got, boolean want) {
        due(call, got ? 1 : 0, want ? 1 : 0);
    }

    int wrongs() {
        return wrong;
    }

    /** Ends the test: exit code 1 if an answer was not the one that is due. */
    void end() {
        System.out.println(test + ": " + asked + " answers, " + wrong + " of them not as due");
        if (wrong > 0) {
            System.exit(1);
        }
    }

    /** Puts a text behind the tape by feed() and back(). */
    static void tell(WordAlgebra x, String text) {
        byte[] bytes = text.getBytes(StandardCharsets.ISO_8859_1);
        for (int at = 0; at < bytes.length; at += 20) {
            int[] five = fiveFrom(bytes, at);
            x.feed(five[0], five[1], five[2], five[3], five[4]);
        }
        x.back((20 - bytes.length % 20) % 20);
    }

    /** The twenty bytes from one on as five numbers, blanks behind the last. */
    static int[] fiveFrom(byte[] bytes, int at) {
        int[] five = new int[5];
        for (int i = 0; i < 20; i++) {
            int next = at + i < bytes.length ? bytes[at + i] & 255 : 32;
            five[i / 4] = five[i / 4] << 8 | next;
        }
        return five;
    }

    static int read(WordAlgebra x, String text) {
        tell(x, text);
        return x.read();
    }

    static int element(WordAlgebra x, int e, String text) {
        tell(x, text);
        return x.element(e);
    }
}
