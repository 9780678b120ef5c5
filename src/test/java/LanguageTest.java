import java.lang.reflect.Constructor;
import java.lang.reflect.Field;
import java.lang.reflect.Member;
import java.lang.reflect.Method;
import java.lang.reflect.Modifier;
import java.nio.file.Files;
import java.nio.file.Path;
import java.util.Arrays;
import java.util.Set;
import java.util.TreeSet;
import java.util.regex.Matcher;
import java.util.regex.Pattern;
import java.util.stream.Collectors;

/** The face is the document's, and the source keeps to those rules of LANGUAGE.md that can be read off it. */
public final class LanguageTest {
    private static final Check CHECK = new Check();
    private static final String[] FACE = {
        "int status()", "boolean set(int,int,int,int,int,int,int)", "boolean ratio(int,int,int)",
        "boolean times(int,int,int,int)", "boolean fold(int,int,int)", "boolean drop(int)", "int exponent(int,int)",
        "int order(int,int)", "int show(int)", "int out(int)", "int map(int,int)", "int steps(int,int)", "int comma(int)",
        "int clear()", "int rank()", "long twist()", "int vanishes(int)", "int supports(int)", "boolean begin(int)",
        "int note(int)", "boolean lay(int,int,int)", "boolean take(int,int)", "int scale(int)", "int kinds(int)",
        "int step(int,int,int)", "boolean mode(int)", "int follows(int)", "int quotient(int,int,int)"};

    public static void main(String[] args) throws Exception {
        face();
        insideClasses();
        source(Files.readString(Path.of("src/main/java/TuneBench.java")));
        CHECK.finish();
    }

    private static void face() {
        Class<?> c = TuneBench.class;
        CHECK.due("public and final", c.getModifiers(), Modifier.PUBLIC | Modifier.FINAL);
        Set<String> methods = new TreeSet<>();
        Set<String> names = new TreeSet<>();
        for (Method m : c.getDeclaredMethods()) {
            if (Modifier.isPublic(m.getModifiers())) {
                methods.add(m.getReturnType() + " " + m.getName() + Arrays.stream(m.getParameterTypes())
                    .map(Class::toString).collect(Collectors.joining(",", "(", ")")));
                names.add(m.getName());
                CHECK.due(m.getName() + " is of an object", Modifier.isStatic(m.getModifiers()), false);
            } else {
                duePrivate(m);
            }
        }
        CHECK.due("the methods", methods.toString(), new TreeSet<>(Arrays.asList(FACE)).toString());
        for (Class<?> inside : c.getDeclaredClasses()) {
            for (Method m : inside.getDeclaredMethods()) {
                CHECK.due("a name of the face inside: " + m.getName(), names.contains(m.getName()), false);
            }
        }
        for (Method m : c.getDeclaredMethods()) {
            CHECK.due("a private method with a name of the face: " + m.getName(),
                !Modifier.isPublic(m.getModifiers()) && names.contains(m.getName()), false);
        }
        for (Field f : c.getDeclaredFields()) {
            if (f.getName().equals("NONE")) {
                CHECK.due("NONE", f.getModifiers(), Modifier.PUBLIC | Modifier.STATIC | Modifier.FINAL);
            } else {
                duePrivate(f);
            }
        }
        Constructor<?>[] made = c.getDeclaredConstructors();
        CHECK.due("one constructor", made.length, 1);
        CHECK.due("it is public", made[0].getModifiers(), Modifier.PUBLIC);
        CHECK.due("without parameters", made[0].getParameterCount(), 0);
    }

    private static void duePrivate(Member m) {
        CHECK.due("private: " + m.getName(), Modifier.isPrivate(m.getModifiers()), true);
    }

    private static void insideClasses() {
        Class<?>[] inside = TuneBench.class.getDeclaredClasses();
        CHECK.due("at most twelve classes", inside.length < 12, true);
        for (Class<?> c : inside) {
            CHECK.due(c + " is static", Modifier.isStatic(c.getModifiers()), true);
            CHECK.due(c + " is not public", Modifier.isPublic(c.getModifiers()), false);
            for (Field f : c.getDeclaredFields()) {
                boolean fixed = !Modifier.isStatic(f.getModifiers()) || Modifier.isFinal(f.getModifiers());
                CHECK.due("static and final: " + f, fixed, true);
            }
        }
    }

    private static void source(String text) {
        String code = text.replaceAll("(?s)/\\*.*?\\*/", "").replaceAll("//[^\n]*", "");
        for (String word : new String[] {"throw", "throws", "try", "catch", "finally", "synchronized", "assert", "import",
            "package", "Object", "Math\\.\\w+Exact", "double", "float", "equals", "hashCode", "toString", "String"}) {
            Matcher m = Pattern.compile("\\b" + word + "\\b").matcher(code);
            CHECK.due("the word " + word, m.find(), false);
        }
        CHECK.due("no lambda", code.contains("->"), false);
        CHECK.due("no method reference", code.contains("::"), false);
        CHECK.due("signs are 1 to 127", text.chars().allMatch(sign -> sign > 0 && sign < 128), true);
        Matcher loop = Pattern.compile("while \\(true|for \\([^;]*;\\s*;").matcher(code);
        CHECK.due("no loop without an end", loop.find(), false);
        objectsInConstructorsAlone(code);
    }

    /** What calls make is never given back: rows are made in constructors, and used again. */
    private static void objectsInConstructorsAlone(String code) {
        boolean constructor = false;
        for (String line : code.split("\n")) {
            if (line.matches("\\s+(public |private )?[A-Z]\\w+\\([^)]*\\) \\{")) {
                constructor = true;
            } else if (line.matches("\\s+.*\\) \\{") && !line.contains(" for ") && !line.contains(" if ")) {
                constructor = false;
            }
            CHECK.due("made in a constructor: " + line.trim(), line.contains("new ") && !constructor, false);
        }
    }
}
