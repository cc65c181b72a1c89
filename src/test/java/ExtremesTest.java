import java.lang.reflect.InvocationTargetException;
import java.lang.reflect.Method;
import java.lang.reflect.Modifier;
import java.util.Arrays;
import java.util.Comparator;

/**
 * Promises 2 to 30: each call with all figures put together that stand at a limit or far outside, of an empty object and
 * of one in the midst of its work: none throws, each answers as Model does.
 */
public final class ExtremesTest {
    private static final int MOST_CALLS = 512;
    private static final int FAR_BELOW = Integer.MIN_VALUE, FAR_ABOVE = Integer.MAX_VALUE;
    private static final int[] BYTES = {-1, 0, 61, 255, 256};
    private static final int[] FEW = {FAR_BELOW, -1, 0, 1, 2, 3, 4, 40, FAR_ABOVE};
    private static final int[] SOME = {FAR_BELOW, -2, -1, 0, 1, 2, 3, 4, 7, 8, 99, 100, FAR_ABOVE};
    private static final int[] MANY = {FAR_BELOW, FAR_BELOW + 1, -2, -1, 0, 1, 2, 3, 4, 5, 6, 7, 8, 9, 20, 21, 40, 41,
        99, 100, 65536, FAR_ABOVE - 1, FAR_ABOVE};

    private final Check check = new Check("ExtremesTest");
    private GridMerger real;
    private Model model;
    private int calls;

    public static void main(String[] args) throws IllegalAccessException {
        ExtremesTest test = new ExtremesTest();
        Method[] face = Arrays.stream(GridMerger.class.getDeclaredMethods())
                .filter(m -> Modifier.isPublic(m.getModifiers())).toArray(Method[]::new);
        Arrays.sort(face, Comparator.comparing(Method::getName));
        test.check.due("calls of the face", face.length, 29);
        for (Method call : face) {
            test.goThrough(call, false);
            test.goThrough(call, true);
        }
        test.check.finish();
    }

    private static int[] figuresOf(Method call, int i) {
        if (call.getName().equals("feed")) {
            return i == 0 ? FEW : BYTES;
        }
        int n = call.getParameterCount();
        return n <= 3 ? MANY : n == 4 ? SOME : FEW;
    }

    private static Method inModel(Method call) {
        return Arrays.stream(Model.class.getDeclaredMethods())
                .filter(m -> m.getName().equals(call.getName()) && !Modifier.isPrivate(m.getModifiers()))
                .findFirst().orElseThrow();
    }

    private void goThrough(Method call, boolean isBusy) throws IllegalAccessException {
        Method due = inModel(call);
        int n = call.getParameterCount();
        int[] at = new int[n];
        begin(isBusy);
        for (boolean isMore = true; isMore; isMore = next(call, at)) {
            if (calls >= MOST_CALLS) {
                begin(isBusy);
            }
            Integer[] figures = new Integer[n];
            for (int i = 0; i < n; i++) {
                figures[i] = figuresOf(call, i)[at[i]];
            }
            String name = call.getName() + Arrays.toString(figures) + (isBusy ? " of a busy object" : " of a new object");
            try {
                calls++;
                long answer = ((Number) call.invoke(real, (Object[]) figures)).longValue();
                check.due(name, answer, answerOfModel(due, figures));
            } catch (InvocationTargetException e) {
                check.text(name, "threw " + e.getCause(), "");
                begin(isBusy);
            }
        }
    }

    private long answerOfModel(Method due, Integer[] figures) throws IllegalAccessException, InvocationTargetException {
        if (due.isVarArgs()) {
            int[] behind = Arrays.stream(figures).skip(1).mapToInt(v -> v).toArray();
            return ((Number) due.invoke(model, figures[0], behind)).longValue();
        }
        return ((Number) due.invoke(model, (Object[]) figures)).longValue();
    }

    /** The first figure goes on fastest, so that one object has its calls upon many places. */
    private static boolean next(Method call, int[] at) {
        for (int i = 0; i < at.length; i++) {
            at[i]++;
            if (at[i] < figuresOf(call, i).length) {
                return true;
            }
            at[i] = 0;
        }
        return false;
    }

    // ---- both get the same calls

    private void begin(boolean isBusy) {
        real = new GridMerger();
        model = new Model();
        calls = 0;
        if (isBusy) {
            makeBusy();
        }
    }

    private void same(long answer, long due) {
        calls++;
        check.due("what makes it busy, call " + calls, answer, due);
    }

    private void write(int grid, int row, int column, String text) {
        for (int i = 0; i < text.length(); i++) {
            same(real.feed(1, text.charAt(i), 0, 0, 0, 0), model.feed(1, text.charAt(i), 0, 0, 0, 0));
        }
        same(real.write(grid, row, column), model.write(grid, row, column));
    }

    private void makeBusy() {
        for (int i = 0; i < 7; i++) {
            same(real.row(0, i, 99 - i), model.row(0, i, 99 - i));
        }
        write(0, 0, 0, "=a2+$b3*total(a2:c7)");
        write(0, 1, 0, "-999999");
        write(0, 2, 1, "=c3");
        write(0, 2, 2, "=b3");
        same(real.like(1, 0), model.like(1, 0));
        same(real.like(2, 0), model.like(2, 0));
        write(1, 1, 0, "5");
        write(2, 1, 0, "=#");
        same(real.note(1, 3, 1, 7), model.note(1, 3, 1, 7));
        same(real.note(2, 3, 1, 9), model.note(2, 3, 1, 9));
        same(real.drop(1, 3), model.drop(1, 3));
        same(real.row(2, 0, 1), model.row(2, 0, 1));
        same(real.rule(0, 4, 50), model.rule(0, 4, 50));
        same(real.image(), model.image());
        same(real.merge(), model.merge());
        same(real.settle(0, 1), model.settle(0, 1));
        same(real.film(0, 3, 0), model.film(0, 3, 0));
        same(real.sheet(1, 0, 40), model.sheet(1, 0, 40));
        same(real.sheet(2, 1, 40), model.sheet(2, 1, 40));
        same(real.put(2, 39, 7), model.put(2, 39, 7));
        write(0, 9, 0, "=1+2");
    }
}
