import java.io.IOException;
import java.lang.reflect.Field;
import java.lang.reflect.Method;
import java.lang.reflect.Modifier;
import java.nio.file.Files;
import java.nio.file.Path;
import java.util.HashSet;
import java.util.List;
import java.util.Set;
import java.util.TreeSet;
import java.util.regex.Matcher;
import java.util.regex.Pattern;

/** Those rules of LANGUAGE.md that a test can look at: the face, the words that are ruled out, the sizes. */
public final class LanguageTest {
    private static final Check CHECK = new Check("LanguageTest");
    private static final Set<String> FACE = Set.of("feed", "back", "read", "element", "place", "counts", "words", "put", "add", "multiply",
            "commute", "plain", "power", "alike", "size", "normal", "form", "table", "base", "baseAt", "closed", "left", "growth", "chains",
            "dual", "bent", "inverse", "centre", "rank", "points", "modules", "weight", "trace", "hold", "restore", "count");

    public static void main(String[] args) throws IOException {
        String source = args.length > 0 ? args[0] : "src/main/java/WordAlgebra.java";
        words(Files.readAllLines(Path.of(source)));
        face();
        for (Class<?> inside : WordAlgebra.class.getDeclaredClasses()) {
            insideClass(inside);
        }
        CHECK.due("some twelve classes", WordAlgebra.class.getDeclaredClasses().length <= 12, true);
        CHECK.end();
    }

    private static void words(List<String> lines) {
        Pattern ruledOut = Pattern.compile("\\b(throw|throws|try|catch|finally|synchronized|assert|instanceof|var|record|package|volatile"
                + "|transient|native|double|float|System\\.(?!arraycopy)\\w+|Math\\.\\w+Exact|new \\w+\\(\\) *\\{)\\b|->|::|\\.\\.\\.|@");
        for (int i = 0; i < lines.size(); i++) {
            String code = lines.get(i).replaceAll("//.*|/\\*.*\\*/|^\\s*/?\\*.*", "").replaceAll("\"[^\"]*\"", "\"\"");
            Matcher m = ruledOut.matcher(code);
            CHECK.due("line " + (i + 1) + ": " + (m.find() ? m.group() : ""), m.reset().find(), false);
            boolean isImport = code.startsWith("import ");
            CHECK.due("line " + (i + 1) + ": import", isImport && !code.equals("import java.util.Arrays;"), false);
            CHECK.due("line " + (i + 1) + ": its length", lines.get(i).length() <= 130, true);
            for (char sign : lines.get(i).toCharArray()) {
                CHECK.due("line " + (i + 1) + ": its signs", sign >= 32 && sign < 127, true);
            }
        }
        methodLengths(lines);
    }

    private static void methodLengths(List<String> lines) {
        int begin = -1;
        String indent = "";
        for (int i = 0; i < lines.size(); i++) {
            Matcher m = Pattern.compile("^( {4}| {8})(?!return|else)[\\w<>\\[\\] ]+\\(.*\\{$").matcher(lines.get(i));
            if (m.find()) {
                begin = i;
                indent = m.group(1);
            } else if (begin >= 0 && lines.get(i).equals(indent + "}")) {
                CHECK.due("line " + (begin + 1) + ": lines of the method", i - begin < 60, true);
                begin = -1;
            }
        }
    }

    private static void face() {
        Set<String> found = new TreeSet<>();
        for (Method m : WordAlgebra.class.getDeclaredMethods()) {
            boolean shown = Modifier.isPublic(m.getModifiers());
            CHECK.due(m.getName() + " is public or private", shown || Modifier.isPrivate(m.getModifiers()), true);
            CHECK.due(m.getName() + " is in the face", shown, FACE.contains(m.getName()));
            CHECK.due(m.getName() + ": static", shown && Modifier.isStatic(m.getModifiers()), false);
            CHECK.due(m.getName() + ": parameters", m.getParameterCount() <= 7, true);
            if (shown) {
                CHECK.due(m.getName() + " stands once", found.add(m.getName()), true);
            }
        }
        CHECK.due("the face is whole", found.size(), FACE.size());
        CHECK.due("constructors", WordAlgebra.class.getDeclaredConstructors().length, 1);
        fields(WordAlgebra.class);
    }

    private static void fields(Class<?> one) {
        int kept = 0;
        for (Field f : one.getDeclaredFields()) {
            boolean isStatic = Modifier.isStatic(f.getModifiers());
            kept += isStatic ? 0 : 1;
            CHECK.due(one + ": static " + f.getName() + " is final", !isStatic || Modifier.isFinal(f.getModifiers()), true);
            if (one == WordAlgebra.class) {
                CHECK.due(f.getName() + " is private", Modifier.isPrivate(f.getModifiers()), !f.getName().equals("NONE"));
            }
        }
        CHECK.due(one + ": some twenty fields", kept <= 20, true);
    }

    private static void insideClass(Class<?> inside) {
        CHECK.due(inside + " is static", Modifier.isStatic(inside.getModifiers()), true);
        CHECK.due(inside + " is private", Modifier.isPrivate(inside.getModifiers()), true);
        Set<String> names = new HashSet<>();
        for (Method m : inside.getDeclaredMethods()) {
            names.add(m.getName());
            CHECK.due(inside + "." + m.getName() + ": parameters", m.getParameterCount() <= 7, true);
        }
        for (String name : names) {
            CHECK.due(inside + "." + name + " has no name of the face", FACE.contains(name), false);
        }
        fields(inside);
    }
}
