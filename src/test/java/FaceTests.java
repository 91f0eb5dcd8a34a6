import java.lang.reflect.Array;
import java.lang.reflect.Constructor;
import java.lang.reflect.Field;
import java.lang.reflect.Method;
import java.lang.reflect.Modifier;
import java.nio.file.Files;
import java.nio.file.Path;
import java.util.Arrays;
import java.util.Collections;
import java.util.IdentityHashMap;
import java.util.Set;
import java.util.TreeSet;
import java.util.regex.Matcher;
import java.util.regex.Pattern;

/** The public face of the document, and of LANGUAGE.md what can be seen from the outside. */
public final class FaceTests {
    private static final String[] METHODS = {
        "int section(int,int,int,int,int)", "int clear()", "int sections()", "int isStable(int,int,int,int,int,int)",
        "long about(int,int)", "long echo(int,int,int)", "int plan(int,int,int)", "long planned(int,int)",
        "int forge(int,int,long)", "int check()", "int told(int)", "long sample(int)", "long kept(int,int)",
        "long drift()", "int exact(int)", "int quiet()"};
    private static final Pattern RULED_OUT = Pattern.compile(
            "\\b(throws?|try|catch|synchronized|assert|Random|Thread)\\b|System\\.(?!arraycopy)|\\w+Exact\\(|->|::");
    /** Objects are made as fields, or as elements in the two constructors. */
    private static final Pattern MADE = Pattern.compile("\\s+(private [^(]*|(rows|places|signals)\\[i\\]) = new [^;]*;");
    private static int wrong = 0;

    private static void hold(String what, boolean holds) {
        if (!holds) {
            wrong++;
            System.out.println("does not hold: " + what);
        }
    }

    public static void main(String[] args) throws Exception {
        face();
        classesInside();
        room();
        source();
        System.out.println(wrong == 0 ? "the face is as due" : wrong + " do not hold");
        if (wrong != 0) System.exit(1);
    }

    private static void face() throws Exception {
        Class<?> c = FilterBench.class;
        hold("public and final", Modifier.isPublic(c.getModifiers()) && Modifier.isFinal(c.getModifiers()));
        TreeSet<String> seen = new TreeSet<>(), names = new TreeSet<>();
        for (Method m : c.getDeclaredMethods()) {
            if (Modifier.isPrivate(m.getModifiers())) continue;
            String parameters = String.join(",", Arrays.stream(m.getParameterTypes()).map(Class::getName).toList());
            seen.add(m.getReturnType() + " " + m.getName() + "(" + parameters + ")");
            names.add(m.getName());
        }
        hold("the methods: " + seen, seen.equals(new TreeSet<>(Arrays.asList(METHODS))));
        for (Method m : c.getDeclaredMethods()) {
            if (Modifier.isPrivate(m.getModifiers())) hold("private " + m.getName(), !names.contains(m.getName()));
        }
        Constructor<?>[] made = c.getDeclaredConstructors();
        hold("one constructor", made.length == 1 && Modifier.isPublic(made[0].getModifiers()) && made[0].getParameterCount() == 0);
        TreeSet<String> constants = new TreeSet<>();
        for (Field f : c.getDeclaredFields()) {
            if (Modifier.isStatic(f.getModifiers())) hold("final " + f.getName(), Modifier.isFinal(f.getModifiers()));
            if (!Modifier.isPrivate(f.getModifiers())) constants.add(f.getName() + " " + f.get(null));
        }
        hold("the constants: " + constants, constants.equals(new TreeSet<>(Arrays.asList("NONE -1", "OUTSIDE -2", "ROOM -3"))));
    }

    private static void classesInside() {
        Class<?>[] inside = FilterBench.class.getDeclaredClasses();
        hold("at most twelve classes", inside.length < 12);
        members(FilterBench.class);
        for (Class<?> c : inside) {
            int how = c.getModifiers();
            hold(c + " private and static", Modifier.isPrivate(how) && Modifier.isStatic(how));
            members(c);
        }
    }

    private static void members(Class<?> c) {
        long fields = Arrays.stream(c.getDeclaredFields()).filter(f -> !Modifier.isStatic(f.getModifiers())).count();
        hold(c + " at most twenty fields", fields <= 20);
        for (Method m : c.getDeclaredMethods()) hold(m + " at most seven parameters", m.getParameterCount() <= 7);
    }

    /** What README.md says of the room of one object. */
    private static void room() throws Exception {
        Set<Object> seen = Collections.newSetFromMap(new IdentityHashMap<>());
        int elements = count(new FilterBench(), seen);
        hold("some 85 objects: " + seen.size(), seen.size() <= 90);
        hold("some 2,300 fields and elements: " + elements, elements <= 2350);
    }

    private static int count(Object o, Set<Object> seen) throws Exception {
        if (o == null || !seen.add(o)) return 0;
        int all = 0;
        if (o.getClass().isArray()) {
            boolean deep = !o.getClass().getComponentType().isPrimitive();
            for (int i = 0; i < Array.getLength(o); i++) all += 1 + (deep ? count(Array.get(o, i), seen) : 0);
            return all;
        }
        for (Field f : o.getClass().getDeclaredFields()) {
            if (Modifier.isStatic(f.getModifiers())) continue;
            f.setAccessible(true);
            all += 1 + (f.getType().isPrimitive() ? 0 : count(f.get(o), seen));
        }
        return all;
    }

    private static void source() throws Exception {
        String text = Files.readString(Path.of("src/main/java/FilterBench.java"));
        String code = text.replaceAll("(?s)/\\*.*?\\*/", "").replaceAll("//[^\n]*", "");
        Matcher m = RULED_OUT.matcher(code);
        while (m.find()) hold("without " + m.group(), false);
        for (String line : code.split("\n")) {
            if (line.matches(".*\\bnew\\b.*")) hold("made in a constructor: " + line.trim(), MADE.matcher(line).matches());
        }
        hold("one import", code.split("\\bimport\\b", -1).length == 2 && code.contains("import java.util.Arrays;"));
        hold("characters 0 to 255", text.chars().allMatch(v -> v < 256));
    }
}
