import java.io.IOException;
import java.nio.file.Files;
import java.nio.file.Path;
import java.util.List;

/** The example of README.md: each of its calls stands there with the answer that the class gives. */
public final class ReadmeTest {
    private static final Check CHECK = new Check("ReadmeTest");

    public static void main(String[] args) throws IOException {
        List<String> readme = Files.readAllLines(Path.of("README.md"));
        WordAlgebra x = new WordAlgebra();
        tell(readme, x, "letter x; letter y; law y x = x y + x x; to 4;");
        says(readme, "x.read();", x.read());
        says(readme, "x.size(3);", x.size(3));
        says(readme, "x.form(2001, 2002);", x.form(2001, 2002));
        says(readme, "x.closed();", x.closed());
        says(readme, "x.growth();", x.growth());
        says(readme, "x.left(60);", x.left(60));
        tell(readme, x, "(x + y)(x - y)");
        says(readme, "x.element(0);", x.element(0));
        says(readme, "x.words(0, 0);", x.words(0, 0));
        says(readme, "x.plain(0);", x.plain(0));
        says(readme, "x.counts(0, 2000);", x.counts(0, 2000));
        says(readme, "x.counts(0, 2003);", x.counts(0, 2003));
        tell(readme, x, "x z");
        says(readme, "x.element(0);", x.element(0));
        says(readme, "x.place();", x.place());
        everyCallIsNamed(String.join("\n", readme));
        CHECK.end();
    }

    /** As the example tells it: what fills the last twenty bytes are blanks, and stay on the tape. */
    private static void tell(List<String> readme, WordAlgebra x, String text) {
        CHECK.due("README.md tells " + text, readme.contains("tell(x, \"" + text + "\");"), true);
        for (int at = 0; at < text.length(); at += 20) {
            int[] five = Check.fiveFrom(text.getBytes(java.nio.charset.StandardCharsets.ISO_8859_1), at);
            x.feed(five[0], five[1], five[2], five[3], five[4]);
        }
    }

    private static void says(List<String> readme, String call, Object answer) {
        boolean found = false;
        for (String line : readme) {
            found = found || line.startsWith(call) && line.contains("// " + answer + ":");
        }
        CHECK.due("README.md says that " + call + " answers " + answer, found, true);
    }

    private static void everyCallIsNamed(String readme) {
        for (java.lang.reflect.Method m : WordAlgebra.class.getMethods()) {
            if (m.getDeclaringClass() == WordAlgebra.class) {
                CHECK.due("README.md names " + m.getName(), readme.contains("`" + m.getName() + "`"), true);
            }
        }
    }
}
