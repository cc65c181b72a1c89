import java.io.IOException;
import java.lang.reflect.Constructor;
import java.lang.reflect.Field;
import java.lang.reflect.Method;
import java.lang.reflect.Modifier;
import java.nio.file.Files;
import java.nio.file.Path;
import java.util.Arrays;
import java.util.List;
import java.util.Set;
import java.util.TreeSet;
import java.util.regex.Matcher;
import java.util.regex.Pattern;

/** What can be seen of ../shared/LANGUAGE.md's rules and of the face: run from the project's folder. */
public final class LanguageTest {
    private static final Check CHECK = new Check("LanguageTest");

    private static final String[] FACE = {"int feed(6)", "int write(3)", "int row(3)", "int drop(2)", "int move(3)",
        "int note(4)", "int fill(4)", "int like(2)", "int told(4)", "long value(3)", "int print(4)", "int rule(3)",
        "int taken(2)", "int merge(0)", "int clash(2)", "int settle(2)", "int take(0)", "int undo(0)", "int exchanged(0)",
        "int drawn(2)", "int chance(3)", "int tells(4)", "int film(3)", "int image(0)", "int back(0)", "int count(1)",
        "int sheet(3)", "int put(3)", "int copy(5)"};

    private static final String[] FORBIDDEN = {"->", "::", "\\bthrow\\b", "\\bcatch\\b", "\\bfinally\\b", "\\btry\\b",
        "\\bsynchronized\\b", "\\bassert\\b", "\\brecord\\b", "\\bvar\\b", "\\bdouble\\b", "\\bfloat\\b", "Exact\\b",
        "\\bObject\\b", "\\bHashMap\\b", "\\bhashCode\\b", "\\btoString\\b", "\"\\s*\\+", "\\+\\s*\"", "\\bpackage\\b",
        "\\bpublic\\s+static\\s+(?!final)", "\\bprotected\\b"};

    /** Rule 4: what is used of the library; NO is as the document's face has it. */
    private static final Set<String> LIBRARY = Set.of("Arrays.copyOf", "Arrays.fill", "Math.max", "Math.min",
        "System.arraycopy", "Long.MIN_VALUE");

    public static void main(String[] args) throws IOException {
        face();
        for (Class<?> c : classes()) {
            shapeOf(c);
        }
        source(Files.readString(Path.of("src/main/java/GridMerger.java")));
        CHECK.finish();
    }

    private static List<Class<?>> classes() {
        Class<?>[] inside = GridMerger.class.getDeclaredClasses();
        Class<?>[] all = Arrays.copyOf(inside, inside.length + 1);
        all[inside.length] = GridMerger.class;
        return List.of(all);
    }

    private static void face() {
        Set<String> found = new TreeSet<>();
        for (Method m : GridMerger.class.getDeclaredMethods()) {
            if (!Modifier.isPrivate(m.getModifiers())) {
                found.add(m.getReturnType() + " " + m.getName() + "(" + m.getParameterCount() + ")");
                CHECK.due(m.getName() + " is public, no static", m.getModifiers(), Modifier.PUBLIC);
            }
        }
        CHECK.text("face", found.toString(), new TreeSet<>(List.of(FACE)).toString());
        Set<String> constants = new TreeSet<>();
        for (Field f : GridMerger.class.getDeclaredFields()) {
            if (!Modifier.isPrivate(f.getModifiers())) {
                constants.add(f.getType() + " " + f.getName());
            }
        }
        CHECK.text("constants", constants.toString(),
                "[int BAD, int FULL, int LOST, int NONE, int RING, int STATE, long NO]");
        Constructor<?>[] made = GridMerger.class.getDeclaredConstructors();
        CHECK.due("constructors", made.length, 1);
        CHECK.due("public constructor", made[0].getModifiers(), Modifier.PUBLIC);
        CHECK.due("public and final", GridMerger.class.getModifiers(), Modifier.PUBLIC | Modifier.FINAL);
        CHECK.due("NO", GridMerger.NO, Long.MIN_VALUE);
        CHECK.due("at most twelve classes", classes().size() <= 12 ? 1 : 0, 1);
    }

    private static void shapeOf(Class<?> c) {
        Set<String> names = new TreeSet<>();
        for (String signature : FACE) {
            names.add(signature.replaceAll(".* (.*)\\(.*", "$1"));
        }
        for (Method m : c.getDeclaredMethods()) {
            String name = c.getSimpleName() + "." + m.getName();
            CHECK.due(name + ": parameters", m.getParameterCount() <= 7 ? 1 : 0, 1);
            boolean isFace = Modifier.isPublic(m.getModifiers());
            CHECK.due(name + ": no name of the face", !isFace && names.contains(m.getName()) ? 1 : 0, 0);
        }
        int own = 0;
        for (Field f : c.getDeclaredFields()) {
            String name = c.getSimpleName() + "." + f.getName();
            if (Modifier.isStatic(f.getModifiers())) {
                Class<?> type = f.getType();
                boolean isPlain = type == int.class || type == long.class || type == int[].class;
                CHECK.due(name + ": a constant", Modifier.isFinal(f.getModifiers()) && isPlain ? 1 : 0, 1);
            } else {
                own++;
            }
        }
        CHECK.due(c.getSimpleName() + ": fields", own <= 20 ? 1 : 0, 1);
        boolean isInside = c != GridMerger.class;
        CHECK.due(c.getSimpleName() + ": static", isInside && !Modifier.isStatic(c.getModifiers()) ? 1 : 0, 0);
    }

    private static void source(String text) {
        String code = text.replaceAll("(?s)/\\*.*?\\*/", "").replaceAll("//[^\n]*", "");
        for (String regexp : FORBIDDEN) {
            Matcher m = Pattern.compile(regexp).matcher(code);
            CHECK.text("forbidden " + regexp, m.find() ? m.group() : "", "");
        }
        Set<String> imports = new TreeSet<>();
        Matcher m = Pattern.compile("import ([^;]*);").matcher(code);
        while (m.find()) {
            imports.add(m.group(1));
        }
        CHECK.text("imports", imports.toString(), "[java.util.Arrays]");
        Matcher used = Pattern.compile("(?<![.\\w])[A-Z]\\w*[a-z]\\w*\\.\\w+").matcher(code);
        while (used.find()) {
            CHECK.text("of the library", LIBRARY.contains(used.group()) ? "" : used.group(), "");
        }
        CHECK.due("signs 1 to 127", text.chars().filter(v -> v < 1 || v > 127).count(), 0);
        methodSizes(text);
    }

    /** A method opens and closes in the columns where its class has its members: 4, or 8 inside another one. */
    private static void methodSizes(String text) {
        String[] lines = text.split("\n");
        for (String indent : new String[] {"    ", "        "}) {
            int opened = -1;
            for (int i = 0; i < lines.length; i++) {
                if (lines[i].matches(indent + "\\w.*\\) \\{")) {
                    opened = i;
                } else if (lines[i].equals(indent + "}") && opened >= 0) {
                    CHECK.due("lines of the method at line " + (opened + 1), i - opened < 60 ? 1 : 0, 1);
                    opened = -1;
                }
            }
        }
    }
}
