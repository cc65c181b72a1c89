import java.io.IOException;
import java.lang.reflect.InvocationTargetException;
import java.lang.reflect.Method;
import java.nio.file.Files;
import java.nio.file.Path;
import java.util.regex.Matcher;
import java.util.regex.Pattern;

/** What README.md tells of the class: each call in it answers as the number behind it says. Run from the project's folder. */
public final class ReadmeTest {
    private static final Pattern MADE = Pattern.compile("GridMerger x = new GridMerger\\(\\);.*");
    private static final Pattern CALL = Pattern.compile("x\\.(\\w+)\\((.*?)\\); +// (-?\\d+).*");

    private static final Check CHECK = new Check("ReadmeTest");

    private static GridMerger x;

    public static void main(String[] args) throws IOException {
        String text = Files.readString(Path.of("README.md"));
        Matcher blocks = Pattern.compile("(?s)```java\n(.*?)```").matcher(text);
        int lines = 0;
        while (blocks.find()) {
            for (String line : blocks.group(1).split("\n")) {
                lines++;
                play(line);
            }
        }
        CHECK.due("it has an example", lines > 1 ? 1 : 0, 1);
        for (Method m : GridMerger.class.getDeclaredMethods()) {
            boolean isTold = text.contains("`" + m.getName() + "`") || text.contains("x." + m.getName() + "(");
            boolean isFace = java.lang.reflect.Modifier.isPublic(m.getModifiers());
            CHECK.text("it tells of each call", isTold || !isFace ? "" : m.getName(), "");
        }
        CHECK.finish();
    }

    private static void play(String line) {
        if (MADE.matcher(line).matches()) {
            x = new GridMerger();
            return;
        }
        Matcher call = CALL.matcher(line);
        if (!call.matches()) {
            CHECK.text("a line that is no call with its answer", line, "");
            return;
        }
        String[] figures = call.group(2).isEmpty() ? new String[0] : call.group(2).split(", ");
        Object[] numbers = new Object[figures.length];
        for (int i = 0; i < figures.length; i++) {
            numbers[i] = figures[i].startsWith("'") ? figures[i].charAt(1) : Integer.parseInt(figures[i]);
        }
        CHECK.due(line, answer(call.group(1), numbers), Long.parseLong(call.group(3)));
    }

    private static long answer(String name, Object[] numbers) {
        try {
            for (Method m : GridMerger.class.getMethods()) {
                if (m.getName().equals(name) && m.getParameterCount() == numbers.length) {
                    return ((Number) m.invoke(x, numbers)).longValue();
                }
            }
        } catch (IllegalAccessException | InvocationTargetException e) {
            CHECK.text(name, e.toString(), "");
        }
        CHECK.text("no such call", name, "");
        return 0;
    }
}
