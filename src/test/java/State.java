import java.util.function.Consumer;

/** What an object's state is, as one text of answers; and a state in which nothing is as in a new object. */
final class State {
    /** 54 bytes of text, two letters, words up to two letters: so that all can be asked within 512 calls. */
    private static final String TEXT = "prime 5;letter x;letter y;to 2;law y x - 2 x y;law x - x;";
    static final String TAPE = "2 x y + 3";

    private State() {
    }

    /** Elements, two of three slots, a fault's place, nine bytes on the tape. */
    static WordAlgebra full() {
        WordAlgebra x = new WordAlgebra();
        Check.read(x, TEXT);
        Check.element(x, 0, "x + 2");
        Check.element(x, 1, "y x + x y");
        Check.element(x, 2, "3 x x - y");
        Check.element(x, 3, "y y + 4");
        Check.element(x, 5, "x");
        x.hold(0);
        x.add(5, 0, 1, 2);
        x.put(4, 2003, 3);
        x.hold(2);
        x.put(0, 1001, 1);
        Check.element(x, 3, "x + q");
        Check.tell(x, TAPE);
        return x;
    }

    /** The same calls as full() makes, and a call behind them. */
    static String fullAnd(Consumer<WordAlgebra> call, boolean withPlace) {
        WordAlgebra x = full();
        call.accept(x);
        return of(x, withPlace);
    }

    static String newAnd(Consumer<WordAlgebra> call) {
        WordAlgebra x = new WordAlgebra();
        call.accept(x);
        return of(x, true);
    }

    /** All that can be asked; the last questions change the object, so that it must not be used any more. */
    static String of(WordAlgebra x, boolean withPlace) {
        StringBuilder all = new StringBuilder(withPlace ? "place " + x.place() : "");
        for (int what = 0; what <= 18; what++) {
            all.append(" count ").append(x.count(what));
        }
        laws(x, all);
        elements(x, all);
        all.append("\ntape ").append(x.element(0)).append(' ').append(x.place());
        element(x, 0, all);
        for (int slot = 0; slot < 3; slot++) {
            all.append("\nslot ").append(slot).append(x.restore(slot));
            elements(x, all);
        }
        return all.toString();
    }

    private static void laws(WordAlgebra x, StringBuilder all) {
        all.append("\nlaws ").append(x.closed()).append(x.growth()).append(x.left(9)).append(' ').append(x.bent());
        all.append(' ').append(x.points()).append(' ').append(x.weight());
        for (int d = 0; d <= x.count(2); d++) {
            all.append(" degree ").append(x.size(d)).append(' ').append(x.base(d)).append(' ').append(x.dual(d)).append(x.centre(d));
        }
        for (int w = 0; w < 4 && x.count(1) == 2; w++) {
            all.append(" form ").append(x.form(2001, 2000 + w)).append(x.form(2003, 2000 + w));
        }
    }

    private static void elements(WordAlgebra x, StringBuilder all) {
        for (int e = 0; e < 6; e++) {
            element(x, e, all);
        }
    }

    private static void element(WordAlgebra x, int e, StringBuilder all) {
        all.append("\nelement ").append(x.words(e, 0)).append(' ').append(x.words(e, 1)).append(':');
        for (int d = 0; d <= 2; d++) {
            int words = (int) Math.pow(x.count(1), d);
            for (int w = 0; w < words; w++) {
                all.append(' ').append(x.counts(e, 1000 * d + w));
            }
        }
    }
}
