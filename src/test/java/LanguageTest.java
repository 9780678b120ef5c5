import java.lang.reflect.Array;
import java.lang.reflect.Constructor;
import java.lang.reflect.Field;
import java.lang.reflect.Member;
import java.lang.reflect.Method;
import java.lang.reflect.Modifier;
import java.nio.file.Files;
import java.nio.file.Path;
import java.util.ArrayDeque;
import java.util.Arrays;
import java.util.Collections;
import java.util.Deque;
import java.util.IdentityHashMap;
import java.util.Set;
import java.util.TreeSet;
import java.util.regex.Matcher;
import java.util.regex.Pattern;
import java.util.stream.Collectors;

/** The face is the document's, and the source keeps to those rules of LANGUAGE.md that can be read off it. */
public final class LanguageTest {
    private static final Check CHECK = new Check();
    private static final String[] FACE = {
        "int status()", "boolean set(int,int,int,int,int,int,int)", "boolean ratio(int,int,int)",
        "boolean times(int,int,int,int)", "boolean fold(int,int,int)", "boolean drop(int)", "int exponent(int,int)",
        "int order(int,int)", "int show(int)", "int out(int)", "int map(int,int)", "int steps(int,int)", "int comma(int)",
        "int clear()", "int rank()", "long twist()", "int vanishes(int)", "int supports(int)", "boolean begin(int)",
        "int note(int)", "boolean lay(int,int,int)", "boolean take(int,int)", "int scale(int)", "int kinds(int)",
        "int step(int,int,int)", "boolean mode(int)", "int follows(int)", "int quotient(int,int,int)"};

    public static void main(String[] args) throws Exception {
        face();
        insideClasses();
        sizesOfClasses(TuneBench.class);
        roomOfAnObject();
        source(Files.readString(Path.of("src/main/java/TuneBench.java")));
        CHECK.finish();
    }

    private static void face() {
        Class<?> c = TuneBench.class;
        CHECK.due("public and final", c.getModifiers(), Modifier.PUBLIC | Modifier.FINAL);
        Set<String> methods = new TreeSet<>();
        Set<String> names = new TreeSet<>();
        for (Method m : c.getDeclaredMethods()) {
            if (Modifier.isPublic(m.getModifiers())) {
                methods.add(m.getReturnType() + " " + m.getName() + Arrays.stream(m.getParameterTypes())
                    .map(Class::toString).collect(Collectors.joining(",", "(", ")")));
                names.add(m.getName());
                CHECK.due(m.getName() + " is of an object", Modifier.isStatic(m.getModifiers()), false);
            } else {
                duePrivate(m);
            }
        }
        CHECK.due("the methods", methods.toString(), new TreeSet<>(Arrays.asList(FACE)).toString());
        for (Class<?> inside : c.getDeclaredClasses()) {
            for (Method m : inside.getDeclaredMethods()) {
                CHECK.due("a name of the face inside: " + m.getName(), names.contains(m.getName()), false);
            }
        }
        for (Method m : c.getDeclaredMethods()) {
            CHECK.due("a private method with a name of the face: " + m.getName(),
                !Modifier.isPublic(m.getModifiers()) && names.contains(m.getName()), false);
        }
        for (Field f : c.getDeclaredFields()) {
            if (f.getName().equals("NONE")) {
                CHECK.due("NONE", f.getModifiers(), Modifier.PUBLIC | Modifier.STATIC | Modifier.FINAL);
            } else {
                duePrivate(f);
            }
        }
        Constructor<?>[] made = c.getDeclaredConstructors();
        CHECK.due("one constructor", made.length, 1);
        CHECK.due("it is public", made[0].getModifiers(), Modifier.PUBLIC);
        CHECK.due("without parameters", made[0].getParameterCount(), 0);
    }

    private static void duePrivate(Member m) {
        CHECK.due("private: " + m.getName(), Modifier.isPrivate(m.getModifiers()), true);
    }

    private static void insideClasses() {
        Class<?>[] inside = TuneBench.class.getDeclaredClasses();
        CHECK.due("at most twelve classes", inside.length < 12, true);
        for (Class<?> c : inside) {
            CHECK.due(c + " is static", Modifier.isStatic(c.getModifiers()), true);
            CHECK.due(c + " is not public", Modifier.isPublic(c.getModifiers()), false);
            for (Field f : c.getDeclaredFields()) {
                boolean fixed = !Modifier.isStatic(f.getModifiers()) || Modifier.isFinal(f.getModifiers());
                CHECK.due("static and final: " + f, fixed, true);
            }
        }
    }

    /** Rule 11: at most seven parameters, some twenty fields. */
    private static void sizesOfClasses(Class<?> c) {
        for (Method m : c.getDeclaredMethods()) {
            CHECK.due("at most seven parameters: " + m, m.getParameterCount() <= 7, true);
        }
        long fields = Arrays.stream(c.getDeclaredFields()).filter(f -> !Modifier.isStatic(f.getModifiers())).count();
        CHECK.due("some twenty fields: " + c, fields <= 20, true);
        for (Class<?> inside : c.getDeclaredClasses()) {
            sizesOfClasses(inside);
        }
    }

    /** All calls of a run live in one room: a thousand objects must leave three quarters of it. */
    private static void roomOfAnObject() throws Exception {
        TuneBench bench = new TuneBench();
        long[] fresh = room(bench);
        CHECK.due("objects and arrays: " + fresh[0], fresh[0] <= 150, true);
        CHECK.due("fields and elements: " + fresh[1], fresh[1] <= 1800, true);
        Benches.fullOfCommas(bench);
        bench.lay(Benches.OCTAVE, Benches.FIFTH, 15);
        bench.mode(3);
        bench.twist();
        bench.quotient(Benches.OCTAVE, Benches.FIFTH, 5);
        long[] used = room(bench);
        CHECK.due("objects and arrays of a used bench", used[0], fresh[0]);
        CHECK.due("fields and elements of a used bench", used[1], fresh[1]);
    }

    /** How many objects and arrays there are, and how many fields and elements they have. */
    private static long[] room(TuneBench bench) throws Exception {
        Set<Object> seen = Collections.newSetFromMap(new IdentityHashMap<>());
        Deque<Object> waiting = new ArrayDeque<>();
        waiting.add(bench);
        long elements = 0;
        while (!waiting.isEmpty()) {
            Object o = waiting.remove();
            if (seen.add(o)) {
                elements += o.getClass().isArray() ? elementsOf(o, waiting) : fieldsOf(o, waiting);
            }
        }
        return new long[] {seen.size(), elements};
    }

    private static int elementsOf(Object array, Deque<Object> waiting) {
        int length = Array.getLength(array);
        for (int i = 0; i < length && !array.getClass().getComponentType().isPrimitive(); i++) {
            waiting.add(Array.get(array, i));
        }
        return length;
    }

    private static int fieldsOf(Object o, Deque<Object> waiting) throws Exception {
        int fields = 0;
        for (Field f : o.getClass().getDeclaredFields()) {
            if (!Modifier.isStatic(f.getModifiers())) {
                fields++;
                f.setAccessible(true);
                if (!f.getType().isPrimitive() && f.get(o) != null) {
                    waiting.add(f.get(o));
                }
            }
        }
        return fields;
    }

    private static void source(String text) {
        String code = text.replaceAll("(?s)/\\*.*?\\*/", "").replaceAll("//[^\n]*", "");
        for (String word : new String[] {"throw", "throws", "try", "catch", "finally", "synchronized", "assert", "import",
            "package", "Object", "Math\\.\\w+Exact", "double", "float", "equals", "hashCode", "toString", "String"}) {
            Matcher m = Pattern.compile("\\b" + word + "\\b").matcher(code);
            CHECK.due("the word " + word, m.find(), false);
        }
        CHECK.due("no lambda", code.contains("->"), false);
        CHECK.due("no method reference", code.contains("::"), false);
        CHECK.due("signs are 1 to 127", text.chars().allMatch(sign -> sign > 0 && sign < 128), true);
        Matcher loop = Pattern.compile("while \\(true|for \\([^;]*;\\s*;").matcher(code);
        CHECK.due("no loop without an end", loop.find(), false);
        objectsInConstructorsAlone(code);
        libraryAlone(code);
        shortMethods(text);
    }

    /** Rule 4: of the library no more than is needed, all of it allowed there. */
    private static void libraryAlone(String code) {
        Set<String> allowed = Set.of("Math.abs", "Math.max", "Math.min", "Math.floorDiv", "Integer.bitCount",
            "System.arraycopy");
        Matcher use = Pattern.compile("\\b(Math|Integer|Long|System|Arrays|Character|Byte|Short|Boolean)\\.\\w+").matcher(code);
        while (use.find()) {
            CHECK.due("allowed: " + use.group(), allowed.contains(use.group()), true);
        }
        Set<String> known = new TreeSet<>(Set.of("TuneBench", "Math", "Integer", "System"));
        for (Class<?> c : TuneBench.class.getDeclaredClasses()) {
            known.add(c.getSimpleName());
        }
        Matcher name = Pattern.compile("\\b[A-Z]\\w*[a-z]\\w*").matcher(code);
        while (name.find()) {
            CHECK.due("a class of its own: " + name.group(), known.contains(name.group()), true);
        }
    }

    /** Rule 11: methods stay short, some sixty lines. A method ends at the brace that stands below its first sign. */
    private static void shortMethods(String text) {
        String[] lines = text.split("\n");
        for (int first = 0; first < lines.length; first++) {
            Matcher head = Pattern.compile("( {4}| {8})(\\w.*)?\\w+\\([^()]*\\) \\{").matcher(lines[first]);
            if (head.matches() && !lines[first].matches(" +(if|for|while|switch|\\}).*")) {
                int last = first;
                while (!lines[last].equals(head.group(1) + "}")) {
                    last++;
                }
                CHECK.due("some sixty lines: " + lines[first].trim(), last - first < 60, true);
            }
        }
    }

    /** What calls make is never given back: rows are made in constructors, and used again. */
    private static void objectsInConstructorsAlone(String code) {
        boolean constructor = false;
        for (String line : code.split("\n")) {
            if (line.matches("\\s+(public |private )?[A-Z]\\w+\\([^)]*\\) \\{")) {
                constructor = true;
            } else if (line.matches("\\s+.*\\) \\{") && !line.contains(" for ") && !line.contains(" if ")) {
                constructor = false;
            }
            CHECK.due("made in a constructor: " + line.trim(), line.contains("new ") && !constructor, false);
        }
    }
}
