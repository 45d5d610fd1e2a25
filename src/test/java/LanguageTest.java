import java.lang.reflect.Field;
import java.lang.reflect.Method;
import java.lang.reflect.Modifier;
import java.nio.file.Files;
import java.nio.file.Path;
import java.util.ArrayList;
import java.util.HashSet;
import java.util.List;
import java.util.Map;
import java.util.Set;
import java.util.TreeMap;
import java.util.TreeSet;
import java.util.regex.Matcher;
import java.util.regex.Pattern;

/**
 * Rules of LANGUAGE.md that can be seen in the text of the class. Run from the project's folder.
 */
public final class LanguageTest {
    private static final Path SOURCE = Path.of("src/main/java/LineEchoes.java");
    private static final String[] FORBIDDEN = {
        "->", "::", "\\btry\\b", "\\bcatch\\b", "\\bfinally\\b", "\\bsynchronized\\b",
        "\\bassert\\b", "\\bpackage\\b", "Exact\\s*\\(", "\\bprotected\\b", "\\bdouble\\b",
        "\\bfloat\\b", "\\bSystem\\.(?!arraycopy\\b)", "\\bThread\\b", "\\bRandom\\b",
        "\\bgetMessage\\b", "\\bhashCode\\b", "\\btoString\\b", "\\bstatic\\s*\\{",
        "\\bArrays\\.(?!fill\\b|copyOf\\b|copyOfRange\\b)", "\\bvar\\b",
    };

    public static void main(String[] args) throws Exception {
        String text = Files.readString(SOURCE);
        for (int i = 0; i < text.length(); i++) {
            char c = text.charAt(i);
            if (c != '\n' && (c < 32 || c > 126)) {
                Check.fail("character " + (int) c + " at " + i);
            }
        }
        String code = withoutComments(text);
        for (String pattern : FORBIDDEN) {
            Matcher m = Pattern.compile(pattern).matcher(code);
            Check.holds("nothing like " + pattern, !m.find());
        }
        imports(code);
        exceptions(code);
        methodLengths(code);
        classes();
        namesOfTheFace();
        depthOfCalls(code);
        Check.finish();
    }

    private static String withoutComments(String text) {
        return text.replaceAll("(?s)/\\*.*?\\*/", "").replaceAll("//[^\n]*", "");
    }

    private static void imports(String code) {
        Matcher m = Pattern.compile("import\\s+([^;]+);").matcher(code);
        List<String> names = new ArrayList<>();
        while (m.find()) {
            names.add(m.group(1));
        }
        Check.sameText("imports", names.toString(), "[java.util.Arrays]");
    }

    private static void exceptions(String code) {
        Matcher m = Pattern.compile("\\bthrow\\b([^;]*);").matcher(code);
        while (m.find()) {
            Check.holds("throw" + m.group(1), m.group(1).matches(
                    " new (IllegalStateException|IllegalArgumentException"
                    + "|IndexOutOfBoundsException)\\(\"[^\"]*\"\\)"));
        }
    }

    /** The head of a method or constructor: its indent, its name, its parameters. */
    private static final Pattern HEAD = Pattern.compile(
            "(?m)^( {4}| {8})(?! |return|else|if|for|while|switch|throw)"
            + "(?:[\\w\\[\\]. ]*[ \\]])?(\\w+)\\(([^()]*)\\)[\\w\\s,]*\\{$");

    private static int endOfBody(String code, Matcher head) {
        return code.indexOf("\n" + head.group(1) + "}", head.end());
    }

    /** Rule 11: methods stay under sixty lines and take at most seven parameters. */
    private static void methodLengths(String code) {
        Matcher m = HEAD.matcher(code);
        int methods = 0;
        while (m.find()) {
            methods++;
            String text = code.substring(m.start(), endOfBody(code, m));
            long lines = text.chars().filter(c -> c == '\n').count();
            Check.holds("short: " + m.group().trim() + " " + lines, lines <= 60);
            Check.holds("few parameters: " + m.group().trim(), m.group(3).split(",").length <= 7);
        }
        Check.holds("methods were seen: " + methods, methods > 60);
    }

    private static List<Class<?>> allClasses() {
        List<Class<?>> all = new ArrayList<>();
        all.add(LineEchoes.class);
        for (int i = 0; i < all.size(); i++) {
            all.addAll(List.of(all.get(i).getDeclaredClasses()));
        }
        return all;
    }

    /** Rules 5 and 11: at most twelve classes, twenty fields each, static fields final. */
    private static void classes() {
        List<Class<?>> all = allClasses();
        Check.holds("at most 12 classes, not " + all.size(), all.size() <= 12);
        for (Class<?> c : all) {
            int fields = 0;
            for (Field f : c.getDeclaredFields()) {
                if (Modifier.isStatic(f.getModifiers())) {
                    Check.holds(f + " is final", Modifier.isFinal(f.getModifiers()));
                } else {
                    fields++;
                }
            }
            Check.holds(c + " has at most 20 fields, not " + fields, fields <= 20);
        }
    }

    /** Rule 1: no other method bears a name of the face, in the classes inside as well. */
    private static void namesOfTheFace() {
        Set<String> face = new HashSet<>();
        for (Method m : LineEchoes.class.getDeclaredMethods()) {
            if (Modifier.isPublic(m.getModifiers())) {
                face.add(m.getName());
            }
        }
        for (Class<?> c : allClasses()) {
            for (Method m : c.getDeclaredMethods()) {
                boolean isFace = c == LineEchoes.class && Modifier.isPublic(m.getModifiers());
                Check.holds(m + " has a name of its own", isFace || !face.contains(m.getName()));
            }
        }
    }

    /**
     * Rules 8 and 11: calls go at most eight deep, the library's among them, and none comes back to
     * its own method. Methods of one name count as one, so the depth is rather too great.
     */
    private static void depthOfCalls(String code) {
        Map<String, Set<String>> callees = new TreeMap<>();
        Pattern call = Pattern.compile("\\b(?!if\\b|for\\b|while\\b|switch\\b)(\\w+)\\(");
        Matcher head = HEAD.matcher(code);
        while (head.find()) {
            Set<String> called = callees.computeIfAbsent(head.group(2), k -> new TreeSet<>());
            Matcher m = call.matcher(code.substring(head.end(), endOfBody(code, head)));
            while (m.find()) {
                called.add(m.group(1));
            }
        }
        int deepest = 0;
        for (String name : callees.keySet()) {
            deepest = Math.max(deepest, depth(name, callees, new ArrayList<>()));
        }
        Check.holds("calls go at most 8 deep, not " + deepest, deepest <= 8);
        Check.holds("calls were seen, " + deepest + " deep", deepest >= 5);
    }

    private static int depth(String name, Map<String, Set<String>> callees, List<String> open) {
        if (open.contains(name)) {
            Check.fail(name + " comes back to itself by way of " + open);
            return 0;
        }
        open.add(name);
        int below = 0;
        for (String called : callees.getOrDefault(name, Set.of())) {
            below = Math.max(below, depth(called, callees, open));
        }
        open.remove(open.size() - 1);
        return below + 1;
    }
}
