import java.lang.reflect.InvocationTargetException;
import java.lang.reflect.Method;
import java.util.ArrayList;
import java.util.List;
import java.util.Random;

/** Calls with any arguments, the least and the greatest numbers too, in any state: none may throw. */
public final class ExtremesTest {
    private static final int[] ODD = {Integer.MIN_VALUE, Integer.MIN_VALUE + 1, -1000, -2, -1, 0, 1, 2, 3, 5, 6, 7, 8, 9, 10, 17, 18, 60, 61,
        255, 256, 999, 1000, 1001, 1004, 2000, 2015, 2016, 3063, 4255, 4256, 5242, 7127, 7128, 8000, 99999, Integer.MAX_VALUE - 1,
        Integer.MAX_VALUE};

    public static void main(String[] args) throws IllegalAccessException {
        Check check = new Check("ExtremesTest");
        Random random = new Random(7);
        Texts texts = new Texts(random);
        List<Method> calls = new ArrayList<>();
        for (Method m : WordAlgebra.class.getDeclaredMethods()) {
            if (java.lang.reflect.Modifier.isPublic(m.getModifiers()) && !m.getName().equals("feed")) {
                calls.add(m);
            }
        }
        calls.sort((a, b) -> a.getName().compareTo(b.getName()));
        check.due("calls of the face beside feed", calls.size(), 35);
        for (int run = 0; run < 300; run++) {
            WordAlgebra x = new WordAlgebra();
            String text = run % 4 == 3 ? texts.tokens(false) : texts.text(4);
            Check.read(x, text);
            for (int i = 0; i < 400; i++) {
                Method m = calls.get(random.nextInt(calls.size()));
                Object[] given = new Object[m.getParameterCount()];
                for (int k = 0; k < given.length; k++) {
                    given[k] = m.getParameterTypes()[k] == boolean.class ? (Object) random.nextBoolean()
                            : (Object) (random.nextInt(3) == 0 ? ODD[random.nextInt(ODD.length)] : random.nextInt(8));
                }
                if (m.getName().equals("read") && i < 390) {
                    continue;
                }
                if (m.getName().equals("element") && random.nextBoolean()) {
                    Check.tell(x, texts.tokens(true));
                }
                try {
                    m.invoke(x, given);
                } catch (InvocationTargetException e) {
                    check.due(m.getName() + java.util.Arrays.toString(given) + " behind " + text + " threw " + e.getCause(), 1, 0);
                }
            }
            byte[] bytes = new byte[2000];
            random.nextBytes(bytes);
            x.read();
            for (int at = 0; at < bytes.length; at += 20) {
                int[] five = Check.fiveFrom(bytes, at);
                check.due("feed", x.feed(five[0], five[1], five[2], five[3], five[4]), at + 20);
            }
            check.due("any bytes", x.read() >= 0, true);
        }
        check.end();
    }
}
