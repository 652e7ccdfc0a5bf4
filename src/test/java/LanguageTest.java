import java.nio.file.Files;
import java.nio.file.Path;
import java.util.List;
import java.util.regex.Matcher;
import java.util.regex.Pattern;

/** What can be seen of LANGUAGE.md's rules in the text of the class. */
public final class LanguageTest {
    private static final String[] RULED_OUT = {
        "->", "::", "\\bfinally\\b", "\\bsynchronized\\b", "\\bassert\\b", "\\btry\\b", "\\bcatch\\b", "Exact\\(",
        "\\bSystem\\.(?!arraycopy)", "\\bprotected\\b", "\\bpackage\\b", "\\bfloat\\b", "\\bdouble\\b", "\\bObject\\b",
        "[^<>=!]=\\s*\"[^\"]*\"\\s*\\+", "\\[\\]\\[\\]", " / ", " % ", "\\(boolean\\[\\]", "\\bMath\\.(?!min|max)", "\\bInteger\\.",
        "Arrays\\.fill\\(worn", "Arrays\\.fill\\(passed",
    };

    public static void main(String[] args) throws Exception {
        Check check = new Check();
        String text = Files.readString(Path.of("src/main/java/LinkedVerse.java"));
        String code = text.replaceAll("//[^\n]*|(?s)/\\*.*?\\*/", "");
        for (String pattern : RULED_OUT) {
            Matcher m = Pattern.compile(pattern).matcher(code);
            check.same("'" + pattern + "' stands there", m.find(), false);
        }
        Matcher imports = Pattern.compile("import ([^;]+);").matcher(code);
        while (imports.find()) {
            check.same("import " + imports.group(1),
                List.of("java.util.Arrays", "java.util.NoSuchElementException").contains(imports.group(1)), true);
        }
        Matcher thrown = Pattern.compile("throw new (\\w+)").matcher(code);
        while (thrown.find()) {
            check.same("throw of " + thrown.group(1), thrown.group(1).equals("NoSuchElementException"), true);
        }
        Matcher statics = Pattern.compile("\\bstatic (?!final|class|int \\w+\\(|long \\w+\\(|boolean \\w+\\()").matcher(code);
        check.same("a static field that is not final", statics.find(), false);
        check.same("signs beyond 127", text.chars().anyMatch(c -> c > 127), false);
        methodsAreShort(check, code);
        check.end();
    }

    private static void methodsAreShort(Check check, String code) {
        String[] lines = code.split("\n");
        Pattern head = Pattern.compile("^(    |        )[a-z][^=;(]*\\(([^()]*)\\)[^;=]*\\{$");
        for (int i = 0; i < lines.length; i++) {
            Matcher m = head.matcher(lines[i]);
            if (!m.find()) {
                continue;
            }
            String end = m.group(1) + "}";
            int length = 1;
            while (i + length < lines.length && !lines[i + length].equals(end)) {
                length++;
            }
            check.same("lines of " + lines[i].trim(), length < 60, true);
            check.same("parameters of " + lines[i].trim(), m.group(2).split(",").length <= 7, true);
        }
    }
}
