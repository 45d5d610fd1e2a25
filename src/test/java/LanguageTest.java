import java.nio.file.Files;
import java.nio.file.Path;
import java.util.ArrayList;
import java.util.List;
import java.util.regex.Matcher;
import java.util.regex.Pattern;

/**
 * Rules of LANGUAGE.md that can be seen in the text of the class. Run from the project's folder.
 */
public final class LanguageTest {
    private static final Path SOURCE = Path.of("src/main/java/LineEchoes.java");
    private static final String[] FORBIDDEN = {
        "->", "::", "\\btry\\b", "\\bcatch\\b", "\\bfinally\\b", "\\bsynchronized\\b",
        "\\bassert\\b", "\\bpackage\\b", "Exact\\s*\\(", "\\bprotected\\b", "\\bdouble\\b",
        "\\bfloat\\b", "\\bSystem\\.(?!arraycopy\\b)", "\\bThread\\b", "\\bRandom\\b",
        "\\bgetMessage\\b", "\\bhashCode\\b", "\\btoString\\b", "\\bstatic\\s*\\{",
        "\\bArrays\\.(?!fill\\b|copyOf\\b|copyOfRange\\b)", "\\bvar\\b",
    };

    public static void main(String[] args) throws Exception {
        String text = Files.readString(SOURCE);
        for (int i = 0; i < text.length(); i++) {
            char c = text.charAt(i);
            if (c != '\n' && (c < 32 || c > 126)) {
                Check.fail("character " + (int) c + " at " + i);
            }
        }
        String code = withoutComments(text);
        for (String pattern : FORBIDDEN) {
            Matcher m = Pattern.compile(pattern).matcher(code);
            Check.holds("nothing like " + pattern, !m.find());
        }
        imports(code);
        exceptions(code);
        methodLengths(code);
        Check.finish();
    }

    private static String withoutComments(String text) {
        return text.replaceAll("(?s)/\\*.*?\\*/", "").replaceAll("//[^\n]*", "");
    }

    private static void imports(String code) {
        Matcher m = Pattern.compile("import\\s+([^;]+);").matcher(code);
        List<String> names = new ArrayList<>();
        while (m.find()) {
            names.add(m.group(1));
        }
        Check.sameText("imports", names.toString(), "[java.util.Arrays]");
    }

    private static void exceptions(String code) {
        Matcher m = Pattern.compile("\\bthrow\\b([^;]*);").matcher(code);
        while (m.find()) {
            Check.holds("throw" + m.group(1), m.group(1).matches(
                    " new (IllegalStateException|IllegalArgumentException"
                    + "|IndexOutOfBoundsException)\\(\"[^\"]*\"\\)"));
        }
    }

    /** Methods stay under sixty lines and take at most seven parameters. */
    private static void methodLengths(String code) {
        Pattern head = Pattern.compile(
                "(?m)^( {4}| {8})(?! |return|else|if|for|while|switch|throw)[\\w\\[\\]. ]*\\w"
                + "\\(([^()]*)\\)[\\w\\s,]*\\{$");
        Matcher m = head.matcher(code);
        int methods = 0;
        while (m.find()) {
            methods++;
            int end = code.indexOf("\n" + m.group(1) + "}", m.end());
            long lines = code.substring(m.start(), end).chars().filter(c -> c == '\n').count();
            Check.holds("short: " + m.group().trim() + " " + lines, lines <= 60);
            Check.holds("few parameters: " + m.group().trim(), m.group(2).split(",").length <= 7);
        }
        Check.holds("methods were seen: " + methods, methods > 60);
    }
}
