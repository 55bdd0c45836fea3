import java.lang.reflect.Field;
import java.lang.reflect.Method;
import java.lang.reflect.Modifier;
import java.nio.file.Files;
import java.nio.file.Path;
import java.util.Arrays;
import java.util.Set;
import java.util.TreeSet;
import java.util.stream.Collectors;

/** The class has the document's face and no other, and keeps to what of LANGUAGE.md can be seen at once. */
public final class FaceTest {
    private static final String[] FACE = {
        "int feed(int,int,int,int,int)", "int desk(int)", "int fault()", "int count(int)", "int letter(int,int)",
        "int link(int,int)", "int suit(int,int)", "boolean isBound(int,int,int)", "int chain(int,int,int,int)",
        "int two(int,int,int)", "int barred(int)", "int held(int,int,int)", "int issues(int,int)", "int forced(int)",
        "int say(int)", "int said(int)", "int latest(int)", "int goes(int,int)",
        "int would(int,int,int,int,int,int)", "int freeTill(int)", "int against(int)",
        "boolean judge(int,int,boolean)", "int find(int,int,int,boolean)", "boolean reverse(int)",
        "int tie(int,int,int,int)", "int cut(int)", "int rule(int,int)", "int undo()", "int ask(int)",
        "void image()", "boolean back()"};
    private static final String[] FORBIDDEN = {
        "try {", "catch (", "finally", "synchronized", "assert ", "->", "::", "instanceof", "protected ", "Exact(",
        "System.out", "Thread", "Random", "nanoTime", "currentTimeMillis", "String.format", "new int[][", "package "};

    private FaceTest() {
    }

    private static String named(Method m) {
        String types = Arrays.stream(m.getParameterTypes()).map(Class::getName).collect(Collectors.joining(","));
        return m.getReturnType().getName() + " " + m.getName() + "(" + types + ")";
    }

    private static void face() {
        Check.due("public and final", Modifier.isPublic(BarredSuits.class.getModifiers())
                && Modifier.isFinal(BarredSuits.class.getModifiers()), true);
        Set<String> seen = new TreeSet<>();
        Set<String> publicNames = new TreeSet<>();
        for (Method m : BarredSuits.class.getDeclaredMethods()) {
            if (Modifier.isPublic(m.getModifiers())) {
                seen.add(named(m));
                publicNames.add(m.getName());
            } else {
                Check.due("private: " + m, Modifier.isPrivate(m.getModifiers()), true);
            }
        }
        Check.due("the methods " + seen, seen.equals(new TreeSet<>(Arrays.asList(FACE))), true);
        for (Method m : BarredSuits.class.getDeclaredMethods()) {
            boolean isPublic = Modifier.isPublic(m.getModifiers());
            Check.due("name of " + m, publicNames.contains(m.getName()), isPublic);
        }
        for (Field f : BarredSuits.class.getDeclaredFields()) {
            boolean none = f.getName().equals("NONE");
            Check.due("field " + f, none ? Modifier.isPublic(f.getModifiers()) : Modifier.isPrivate(f.getModifiers()), true);
        }
        Check.due("one constructor", BarredSuits.class.getDeclaredConstructors().length, 1);
        classesInside(publicNames);
    }

    private static void classesInside(Set<String> publicNames) {
        Class<?>[] inside = BarredSuits.class.getDeclaredClasses();
        Check.due("at most twelve classes", inside.length < 12, true);
        for (Class<?> c : inside) {
            Check.due("static: " + c, Modifier.isStatic(c.getModifiers()), true);
            long fields = Arrays.stream(c.getDeclaredFields()).filter(f -> !Modifier.isStatic(f.getModifiers())).count();
            Check.due("fields of " + c, fields <= 20, true);
            for (Method m : c.getDeclaredMethods()) {
                Check.due("name of " + m, publicNames.contains(m.getName()), false);
                Check.due("parameters of " + m, m.getParameterCount() <= 7, true);
            }
        }
    }

    private static void source() throws java.io.IOException {
        Path file = Path.of("src/main/java/BarredSuits.java");
        String text = Files.readString(file);
        for (String word : FORBIDDEN) {
            Check.due("no " + word, text.contains(word), false);
        }
        Check.due("signs", text.chars().allMatch(c -> c == 10 || c >= 32 && c < 127), true);
        for (String line : text.split("\n")) {
            if (line.startsWith("import ")) {
                boolean listed = line.equals("import java.util.Arrays;") || line.equals("import java.util.NoSuchElementException;");
                Check.due(line, listed, true);
            }
        }
    }

    public static void main(String[] args) throws java.io.IOException {
        face();
        source();
        Check.finish("FaceTest");
    }
}
