import java.nio.file.Files;
import java.nio.file.Path;
import java.util.List;
import java.util.regex.Matcher;
import java.util.regex.Pattern;

/** What of LANGUAGE.md can be seen from the text of the class. Run from the project's root. */
public final class RulesTest {
    private static final String[] BARRED = {"\\bpackage\\b", "\\bimport\\b", "->", "::", "\\bcatch\\b", "\\btry\\b",
        "\\bfinally\\b", "\\bassert\\b", "\\bsynchronized\\b", "\\w+Exact\\(", "\\b(Double|Float|System\\.(?!arraycopy))",
        "\\bhashCode\\b", "\\btoString\\b", "\\bprotected\\b", "\\bnative\\b", "\\bvar\\b", "\\bwhile \\(true\\)"};

    public static void main(String[] args) throws Exception {
        String source = Files.readString(Path.of("src/main/java/LevelLoops.java"));
        String code = source.replaceAll("(?s)/\\*.*?\\*/", "").replaceAll("//[^\n]*", "");
        for (String barred : BARRED) {
            Matcher m = Pattern.compile(barred).matcher(code);
            if (m.find()) {
                Due.fail("the class says " + m.group());
            }
        }
        staticFieldsAreFinal(code);
        methodsAreShort(code);
        objectsAreMadeInConstructors(code);
        Due.end();
    }

    private static void staticFieldsAreFinal(String code) {
        for (String line : code.split("\n")) {
            if (line.contains(" static ") && line.contains(";") && !line.contains(" static final ")) {
                Due.fail("a static field that is not final: " + line);
            }
        }
    }

    private static void methodsAreShort(String code) {
        int start = 0;
        List<String> lines = code.lines().toList();
        for (int i = 0; i < lines.size(); i++) {
            if (lines.get(i).isBlank()) {
                start = i;
            }
            if (i - start > 60) {
                Due.fail("more than 60 lines on end: " + lines.get(start + 1));
                return;
            }
        }
    }

    /** So a call makes nothing but the exception that it throws. */
    private static void objectsAreMadeInConstructors(String code) {
        String method = "";
        for (String line : code.split("\n")) {
            if (line.matches("    (    )?\\w.*\\) .*\\{")) {
                method = line.trim();
            }
            boolean field = line.contains(" final ") && line.endsWith("];");
            if (line.contains("new ") && !line.contains("throw new ") && !field
                    && !method.matches("(public )?[A-Z]\\w*\\(.*")) {
                Due.fail("made in " + method + ": " + line.trim());
            }
        }
    }
}
