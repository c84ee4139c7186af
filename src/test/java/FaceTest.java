import java.lang.reflect.Constructor;
import java.lang.reflect.Field;
import java.lang.reflect.Method;
import java.lang.reflect.Modifier;
import java.nio.file.Files;
import java.nio.file.Path;
import java.util.ArrayList;
import java.util.Arrays;
import java.util.Collections;
import java.util.HashSet;
import java.util.List;
import java.util.Set;
import java.util.TreeSet;
import java.util.regex.Matcher;
import java.util.regex.Pattern;

/** The document's face, and those rules of the language that can be seen from outside. */
final class FaceTest {
    private static final String[] FACE = {
        "int window(int, int)", "int ear(int, int)", "int mill(int, int)", "int put(int, int)", "int player(int, int, int)",
        "int offset(int, int)", "int late(int, int)", "int sound(int, int)", "int type(long, int)", "int clear()", "int read()",
        "int heard(int, int, int)", "int loud(int, int)", "int spread(int)", "int together(int)", "int tuned(int, int)",
        "int clash(int)", "int leftOut(int)", "int follow(int, int)", "int round()", "int undo()", "int settles()",
        "int slip(int, int, int)", "int best(int)", "int wrong(int, int, int, int)", "int nextEar(int)", "int drawn(int)",
        "int image(int)", "int from(int)", "int status(int)", "int count(int)", "long digest()"};
    private static final String[] FORBIDDEN = {"\\b(import|package|throw|throws|try|catch|finally|assert|synchronized)\\b",
        "\\b(Object|Class|Thread|Runtime|Random|Exception|Error)\\b", "\\bSystem\\.(?!arraycopy\\b)", "->", "::", "Exact\\b"};

    private static final Due DUE = new Due("FaceTest");

    private FaceTest() {}

    public static void main(String[] args) throws Exception {
        face();
        classesInside();
        source();
        DUE.end();
    }

    private static void face() {
        Class<?> c = TownPlayers.class;
        DUE.is("1 public final", c.getModifiers(), Modifier.PUBLIC | Modifier.FINAL);
        Set<String> due = new TreeSet<>(Arrays.asList(FACE)), has = new TreeSet<>();
        Set<String> names = new HashSet<>();
        for (String f : FACE) names.add(f.substring(f.indexOf(' ') + 1, f.indexOf('(')));
        for (Method m : c.getDeclaredMethods()) {
            if (Modifier.isPublic(m.getModifiers())) has.add(told(m));
            else DUE.is("1 private " + m, m.isSynthetic() || Modifier.isPrivate(m.getModifiers()) && !names.contains(m.getName()) ? 1 : 0, 1);
        }
        DUE.is("1 the methods " + has, has.equals(due) ? 1 : 0, 1);
        Set<String> constants = new TreeSet<>();
        for (Field f : c.getDeclaredFields()) {
            if (Modifier.isPublic(f.getModifiers())) constants.add(f.getName());
            else DUE.is("1 private " + f, Modifier.isPrivate(f.getModifiers()) ? 1 : 0, 1);
            DUE.is("5 " + f + " is final if static", !Modifier.isStatic(f.getModifiers()) || Modifier.isFinal(f.getModifiers()) ? 1 : 0, 1);
        }
        DUE.is("1 the constants " + constants, constants.toString().equals("[BAD, FULL, NO, NONE]") ? 1 : 0, 1);
        for (Constructor<?> made : c.getDeclaredConstructors()) {
            DUE.is("1 the constructor", Modifier.isPublic(made.getModifiers()) && made.getParameterCount() == 0 ? 1 : 0, 1);
        }
    }

    private static String told(Method m) {
        List<String> types = new ArrayList<>();
        for (Class<?> p : m.getParameterTypes()) types.add(p.getName());
        return m.getReturnType().getName() + " " + m.getName() + "(" + String.join(", ", types) + ")";
    }

    private static void classesInside() {
        Class<?>[] inside = TownPlayers.class.getDeclaredClasses();
        DUE.is("11 twelve classes at most", inside.length <= 12 ? 1 : 0, 1);
        List<Class<?>> all = new ArrayList<>(Arrays.asList(inside));
        all.add(TownPlayers.class);
        for (Class<?> c : all) {
            if (c != TownPlayers.class) {
                DUE.is("2 static: " + c, Modifier.isStatic(c.getModifiers()) && !Modifier.isPublic(c.getModifiers()) ? 1 : 0, 1);
                for (Method m : c.getDeclaredMethods()) {
                    DUE.is("1 no name of the face: " + m, Arrays.stream(FACE).anyMatch(f -> f.contains(" " + m.getName() + "(")) ? 1 : 0, 0);
                    DUE.is("1 no face of its own: " + m, Modifier.isPublic(m.getModifiers()) || Modifier.isProtected(m.getModifiers()) ? 1 : 0, 0);
                }
            }
            int fields = 0;
            for (Field f : c.getDeclaredFields()) if (!Modifier.isStatic(f.getModifiers())) fields++;
            DUE.is("11 twenty fields at most: " + c + " has " + fields, fields <= 20 ? 1 : 0, 1);
            for (Method m : c.getDeclaredMethods()) DUE.is("11 seven parameters at most: " + m, m.getParameterCount() <= 7 ? 1 : 0, 1);
        }
    }

    private static void source() throws Exception {
        Path file = Path.of("src/main/java/TownPlayers.java");
        String text = Files.readString(file);
        DUE.is("4 signs 1 to 127", text.chars().filter(c -> c > 126 || c < 32 && c != '\n').count(), 0);
        String bare = text.replaceAll("(?s)/\\*.*?\\*/", "").replaceAll("//[^\n]*", "").replaceAll("\"[^\"\n]*\"", "\"\"");
        for (String sort : FORBIDDEN) {
            Matcher m = Pattern.compile(sort).matcher(bare);
            DUE.is("4, 6 none of " + sort, m.find() ? 1 : 0, 0);
        }
        DUE.is("10 no text is joined by +", Pattern.compile("\"\\s*\\+|\\+\\s*\"").matcher(bare).find() ? 1 : 0, 0);
        DUE.is("11 sixty lines a method at most", longestMethod(bare) <= 60 ? 1 : 0, 1);
    }

    private static int longestMethod(String bare) {
        List<Integer> lengths = new ArrayList<>(List.of(0));
        String[] lines = bare.split("\n");
        Pattern head = Pattern.compile("^( +)(public |private |static |final )*[\\w\\[\\]]+ \\w+\\([^;]*\\) \\{$|^( +)public TownPlayers\\(\\) \\{$");
        for (int k = 0; k < lines.length; k++) {
            Matcher m = head.matcher(lines[k]);
            if (!m.find() || lines[k].trim().startsWith("if ") || lines[k].trim().startsWith("else ")) continue;
            String end = (m.group(1) == null ? m.group(3) : m.group(1)) + "}";
            int at = k;
            while (at < lines.length && !lines[at].equals(end)) at++;
            lengths.add(at - k + 1);
        }
        DUE.is("11 methods are found", lengths.size() > 60 ? 1 : 0, 1);
        return Collections.max(lengths);
    }
}
