import java.lang.reflect.Constructor;
import java.lang.reflect.Field;
import java.lang.reflect.Method;
import java.lang.reflect.Modifier;
import java.util.ArrayList;
import java.util.Arrays;
import java.util.Collections;
import java.util.List;

/** The public face is the document's, with its exceptions, and has nothing more. */
public final class FaceTest {
    private static final String[] METHODS = {
        "int addPart(int,int) IllegalArgumentException,IllegalStateException",
        "int setPart(int,int,int) IndexOutOfBoundsException,IllegalArgumentException",
        "int removePart(int) IndexOutOfBoundsException",
        "int splitPart(int,int,int) "
            + "IndexOutOfBoundsException,IllegalArgumentException,IllegalStateException",
        "int reverse() ",
        "int setBench(int,int,int) IllegalArgumentException",
        "int addPulse(int,int) IllegalArgumentException,IllegalStateException",
        "int removePulse(int) IndexOutOfBoundsException,IllegalStateException",
        "int part(int,int) IndexOutOfBoundsException,IllegalArgumentException",
        "int bench(int) IllegalArgumentException",
        "long echo(int) IllegalArgumentException",
        "int echoTime(int) IllegalArgumentException",
        "long total(int) IllegalArgumentException",
        "long arrival(int,int,boolean) IndexOutOfBoundsException,IllegalArgumentException",
        "int echoByte(int) IllegalArgumentException",
        "int keepSound() ",
        "int differences() ",
        "int fault(int) IllegalArgumentException",
        "int observe() ",
        "long setObserved(int,long) IllegalArgumentException",
        "long observed(int) IllegalArgumentException",
        "int peel(int) IllegalArgumentException",
        "int found(int,int) IllegalArgumentException",
        "int adopt() ",
        "int type(int) IllegalArgumentException,IllegalStateException",
        "int clearScript() ",
        "int run() ",
        "int undo() IllegalStateException",
        "long digest() ",
    };

    public static void main(String[] args) {
        Class<?> face = LineEchoes.class;
        Check.same("public and final", face.getModifiers(), Modifier.PUBLIC | Modifier.FINAL);
        methods(face);
        constants(face);
        constructor(face);
        for (Class<?> inside : face.getDeclaredClasses()) {
            int m = inside.getModifiers();
            Check.holds(inside + " is static", Modifier.isStatic(m));
            Check.holds(inside + " is not public", !Modifier.isPublic(m));
            Check.holds(inside + " is not protected", !Modifier.isProtected(m));
        }
        Check.finish();
    }

    private static String names(Class<?>[] classes) {
        List<String> names = new ArrayList<>();
        for (Class<?> c : classes) {
            names.add(c.getSimpleName());
        }
        return String.join(",", names);
    }

    private static void methods(Class<?> face) {
        List<String> due = new ArrayList<>(Arrays.asList(METHODS));
        List<String> publicNames = new ArrayList<>();
        List<String> got = new ArrayList<>();
        for (Method m : face.getDeclaredMethods()) {
            if (Modifier.isPublic(m.getModifiers())) {
                Check.holds(m + " is not static", !Modifier.isStatic(m.getModifiers()));
                publicNames.add(m.getName());
                got.add(m.getReturnType().getSimpleName() + " " + m.getName() + "("
                        + names(m.getParameterTypes()) + ") " + names(m.getExceptionTypes()));
            } else {
                Check.holds(m + " is private", Modifier.isPrivate(m.getModifiers()));
            }
        }
        Collections.sort(due);
        Collections.sort(got);
        Check.sameText("methods", String.join("\n", got), String.join("\n", due));
        for (Method m : face.getDeclaredMethods()) {
            boolean isPublic = Modifier.isPublic(m.getModifiers());
            Check.holds("private " + m.getName() + " has a name of its own",
                    isPublic || !publicNames.contains(m.getName()));
        }
    }

    private static void constants(Class<?> face) {
        List<String> names = new ArrayList<>();
        for (Field f : face.getDeclaredFields()) {
            if (!Modifier.isPrivate(f.getModifiers())) {
                names.add(Modifier.toString(f.getModifiers()) + " " + f.getType() + " "
                        + f.getName());
            } else if (Modifier.isStatic(f.getModifiers())) {
                Check.holds(f + " is final", Modifier.isFinal(f.getModifiers()));
            }
        }
        Collections.sort(names);
        Check.sameText("constants", String.join("; ", names), "public static final int COMPLETE; "
                + "public static final int CONTRADICTION; public static final int NONE; "
                + "public static final int TOO_LONG");
        Check.same("NONE", LineEchoes.NONE, -1);
        Check.same("COMPLETE", LineEchoes.COMPLETE, 0);
        Check.same("CONTRADICTION", LineEchoes.CONTRADICTION, 1);
        Check.same("TOO_LONG", LineEchoes.TOO_LONG, 2);
    }

    private static void constructor(Class<?> face) {
        Constructor<?>[] constructors = face.getDeclaredConstructors();
        Check.same("constructors", constructors.length, 1);
        Check.holds("public constructor", Modifier.isPublic(constructors[0].getModifiers()));
        Check.same("its parameters", constructors[0].getParameterCount(), 0);
    }
}
