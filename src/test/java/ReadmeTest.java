import java.lang.reflect.Method;
import java.lang.reflect.Modifier;
import java.nio.file.Files;
import java.nio.file.Path;
import java.util.regex.Matcher;
import java.util.regex.Pattern;

/** Runs README.md's example line by line, so that what it says of the class stays true. */
public final class ReadmeTest {
    private static final Pattern TEXT = Pattern.compile("feedText\\(x, \"([^\"]*)\"\\);");
    private static final Pattern CALL = Pattern.compile("x\\.(\\w+)\\(([^)]*)\\);\\s*// (\\S+).*");
    private static final Pattern RULE = Pattern.compile("\\| `([^`]*;)` \\| .*");

    public static void main(String[] args) throws Exception {
        Check check = new Check();
        String page = Files.readString(Path.of("README.md"));
        example(check, page);
        for (Method method : LinkedVerse.class.getDeclaredMethods()) {
            if (Modifier.isPublic(method.getModifiers())) {
                check.same("row of " + method.getName(), page.contains("\n| `" + method.getName() + "("), true);
            }
        }
        tellings(check, page);
        check.end();
    }

    private static void example(Check check, String page) throws Exception {
        LinkedVerse x = null;
        int calls = 0;
        for (String line : page.split("\n")) {
            Matcher text = TEXT.matcher(line);
            Matcher call = CALL.matcher(line);
            if (line.equals("LinkedVerse x = new LinkedVerse();")) {
                x = new LinkedVerse();
            } else if (text.matches()) {
                Check.feed(x, text.group(1));
            } else if (call.matches()) {
                calls++;
                check.same(line, answer(x, call.group(1), call.group(2)), call.group(3));
            } else {
                check.same("no call is left out: " + line, line.startsWith("x."), false);
            }
        }
        check.same("there are calls", calls > 40, true);
    }

    private static String answer(LinkedVerse x, String name, String written) throws Exception {
        String[] parts = written.isEmpty() ? new String[0] : written.split(", ");
        for (Method method : LinkedVerse.class.getDeclaredMethods()) {
            if (method.getName().equals(name) && method.getParameterCount() == parts.length) {
                Object[] values = new Object[parts.length];
                for (int i = 0; i < parts.length; i++) {
                    values[i] = valueOf(parts[i], method.getParameterTypes()[i]);
                }
                return String.valueOf(method.invoke(x, values));
            }
        }
        return "there is no such call";
    }

    private static Object valueOf(String written, Class<?> type) {
        if (type == boolean.class) {
            return Boolean.valueOf(written);
        }
        return type == long.class ? (Object) Long.valueOf(written) : (Object) Integer.valueOf(written);
    }

    /** All tellings of the table are one text without a fault, and each rule has the sort that the table says. */
    private static void tellings(Check check, String page) {
        StringBuilder text = new StringBuilder("kind rain;");
        StringBuilder sorts = new StringBuilder();
        for (String line : page.split("\n")) {
            Matcher telling = RULE.matcher(line);
            if (telling.matches()) {
                text.append(telling.group(1));
                Matcher sort = Pattern.compile("sort (\\d)").matcher(line);
                sorts.append(sort.find() ? sort.group(1) : "");
            }
        }
        LinkedVerse x = new LinkedVerse();
        check.same("the table's text", Check.read(x, text.toString()), 0);
        StringBuilder told = new StringBuilder();
        for (int rule = 0; rule < x.count(2); rule++) {
            told.append(x.ruleOf(rule, 0));
        }
        check.same("sorts of the table", sorts.toString(), told.toString());
        check.same("sorts", told.toString(), "012345678");
    }
}
