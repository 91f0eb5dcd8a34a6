import java.lang.reflect.Constructor;
import java.lang.reflect.Field;
import java.lang.reflect.Method;
import java.lang.reflect.Modifier;
import java.nio.file.Files;
import java.nio.file.Path;
import java.util.Arrays;
import java.util.TreeSet;
import java.util.regex.Matcher;
import java.util.regex.Pattern;

/** The public face of the document, and of LANGUAGE.md what can be seen from the outside. */
public final class FaceTests {
    private static final String[] METHODS = {
        "int section(int,int,int,int,int)", "int clear()", "int sections()", "int isStable(int,int,int,int,int,int)",
        "long about(int,int)", "long echo(int,int,int)", "int plan(int,int,int)", "long planned(int,int)",
        "int forge(int,int,long)", "int check()", "int told(int)", "long sample(int)", "long kept(int,int)",
        "long drift()", "int exact(int)", "int quiet()"};
    private static final Pattern RULED_OUT = Pattern.compile(
            "\\b(throws?|try|catch|synchronized|assert|Random|Thread)\\b|System\\.(?!arraycopy)|\\w+Exact\\(|->|::");
    private static int wrong = 0;

    private static void hold(String what, boolean holds) {
        if (!holds) {
            wrong++;
            System.out.println("does not hold: " + what);
        }
    }

    public static void main(String[] args) throws Exception {
        face();
        source();
        System.out.println(wrong == 0 ? "the face is as due" : wrong + " do not hold");
        if (wrong != 0) System.exit(1);
    }

    private static void face() throws Exception {
        Class<?> c = FilterBench.class;
        hold("public and final", Modifier.isPublic(c.getModifiers()) && Modifier.isFinal(c.getModifiers()));
        TreeSet<String> seen = new TreeSet<>(), names = new TreeSet<>();
        for (Method m : c.getDeclaredMethods()) {
            if (Modifier.isPrivate(m.getModifiers())) continue;
            String parameters = String.join(",", Arrays.stream(m.getParameterTypes()).map(Class::getName).toList());
            seen.add(m.getReturnType() + " " + m.getName() + "(" + parameters + ")");
            names.add(m.getName());
        }
        hold("the methods: " + seen, seen.equals(new TreeSet<>(Arrays.asList(METHODS))));
        for (Method m : c.getDeclaredMethods()) {
            if (Modifier.isPrivate(m.getModifiers())) hold("private " + m.getName(), !names.contains(m.getName()));
        }
        Constructor<?>[] made = c.getDeclaredConstructors();
        hold("one constructor", made.length == 1 && Modifier.isPublic(made[0].getModifiers()) && made[0].getParameterCount() == 0);
        TreeSet<String> constants = new TreeSet<>();
        for (Field f : c.getDeclaredFields()) {
            if (Modifier.isStatic(f.getModifiers())) hold("final " + f.getName(), Modifier.isFinal(f.getModifiers()));
            if (!Modifier.isPrivate(f.getModifiers())) constants.add(f.getName() + " " + f.get(null));
        }
        hold("the constants: " + constants, constants.equals(new TreeSet<>(Arrays.asList("NONE -1", "OUTSIDE -2", "ROOM -3"))));
    }

    private static void source() throws Exception {
        String text = Files.readString(Path.of("src/main/java/FilterBench.java"));
        String code = text.replaceAll("(?s)/\\*.*?\\*/", "").replaceAll("//[^\n]*", "");
        Matcher m = RULED_OUT.matcher(code);
        while (m.find()) hold("without " + m.group(), false);
        hold("one import", code.split("\\bimport\\b", -1).length == 2 && code.contains("import java.util.Arrays;"));
        hold("characters 0 to 255", text.chars().allMatch(v -> v < 256));
    }
}
