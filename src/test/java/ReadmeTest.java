import java.io.File;
import java.lang.reflect.Method;
import java.lang.reflect.Modifier;
import java.nio.file.Files;
import java.nio.file.Path;
import java.util.regex.Matcher;
import java.util.regex.Pattern;

/** README.md says what is so: its example is called line by line. Run from the project's folder. */
public final class ReadmeTest {
    private static final Pattern MADE = Pattern.compile("LineEchoes x = new LineEchoes\\(\\);.*");
    private static final Pattern CALL =
            Pattern.compile("x\\.(\\w+)\\(([^)]*)\\); +// (-?\\d+|LineEchoes\\.\\w+)\\b.*");
    private static final Pattern TYPED =
            Pattern.compile("for \\(char c : \"([^\"]*)\"\\.toCharArray\\(\\)\\) x\\.type\\(c\\);");

    public static void main(String[] args) throws Exception {
        String page = Files.readString(Path.of("README.md"));
        example(page);
        callsAreNamed(page);
        testsAreNamed(page);
        Check.finish();
    }

    private static void example(String page) throws Exception {
        int start = page.indexOf("```java\n") + "```java\n".length();
        String block = page.substring(start, page.indexOf("```", start));
        LineEchoes x = null;
        int calls = 0;
        for (String line : block.split("\n")) {
            Matcher call = CALL.matcher(line);
            Matcher typed = TYPED.matcher(line);
            if (MADE.matcher(line).matches()) {
                x = new LineEchoes();
            } else if (call.matches()) {
                calls++;
                long answer = answer(x, call.group(1), call.group(2));
                Check.same("README: " + line, answer, value(call.group(3)));
            } else if (typed.matches()) {
                Twins.type(x, typed.group(1));
            } else {
                Check.holds("README: '" + line + "' is a call with its answer", line.isBlank());
            }
        }
        Check.holds("the example was seen: " + calls, calls > 15);
    }

    private static long value(String text) throws Exception {
        if (text.startsWith("LineEchoes.")) {
            return LineEchoes.class.getField(text.substring("LineEchoes.".length())).getInt(null);
        }
        return Long.parseLong(text);
    }

    private static long answer(LineEchoes x, String name, String list) throws Exception {
        String[] texts = list.isEmpty() ? new String[0] : list.split(", *");
        for (Method m : LineEchoes.class.getMethods()) {
            if (m.getName().equals(name) && m.getParameterCount() == texts.length) {
                Object[] arguments = new Object[texts.length];
                for (int i = 0; i < texts.length; i++) {
                    arguments[i] = argument(m.getParameterTypes()[i], texts[i]);
                }
                return ((Number) m.invoke(x, arguments)).longValue();
            }
        }
        throw new AssertionError("no method " + name + " with " + texts.length + " arguments");
    }

    private static Object argument(Class<?> type, String text) {
        if (type == boolean.class) {
            return Boolean.valueOf(text);
        }
        return type == long.class ? (Object) Long.valueOf(text) : (Object) Integer.valueOf(text);
    }

    private static void callsAreNamed(String page) {
        for (Method m : LineEchoes.class.getDeclaredMethods()) {
            if (Modifier.isPublic(m.getModifiers())) {
                Check.holds("README names " + m.getName(),
                        page.contains("`" + m.getName() + "`"));
            }
        }
    }

    private static void testsAreNamed(String page) {
        for (File file : new File("src/test/java").listFiles()) {
            String name = file.getName().replace(".java", "");
            if (name.endsWith("Test")) {
                Check.holds("README names " + name, page.contains("| " + name + " |"));
            }
        }
    }
}
