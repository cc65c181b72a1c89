import com.sun.management.ThreadMXBean;
import java.lang.management.ManagementFactory;
import java.util.function.Consumer;
import java.util.function.ToLongFunction;

/**
 * "What it is": an object is used for 512 calls, and all they make lies in one room of 600,000 objects and 7,300,000
 * fields and elements. A field or element has a byte at least, an object 16: so bytes hold for both.
 */
public final class RoomTest {
    private static final long ROOM = 7_300_000;
    private static final int MOST_CALLS = 512;
    private static final ThreadMXBean BEAN = (ThreadMXBean) ManagementFactory.getThreadMXBean();

    private static final Check CHECK = new Check("RoomTest");

    private static long kept;

    public static void main(String[] args) {
        String longest = "=total(a1:c8)-a1*b2+c3-$a4*b5+c6-a7*b8+1";
        CHECK.due("the longest TEXT", longest.length(), 40);
        room("feed, write", x -> crowded(x, longest), x -> Check.feed(x, longest) + x.write(0, 0, 0), 9);
        room("row, drop", x -> crowded(x, longest), x -> x.drop(0, 3) + x.row(0, 3, 4), 2);
        room("move", x -> crowded(x, longest), x -> x.move(0, 0, 7), 1);
        room("note", x -> crowded(x, longest), x -> x.note(0, 0, 0, 9), 1);
        room("fill", x -> crowded(x, longest), x -> x.fill(0, 0, 0, 7), 1);
        room("like", x -> crowded(x, longest), x -> x.like(1, 0), 1);
        room("told", x -> crowded(x, longest), x -> x.told(0, 0, 0, 3), 1);
        room("value", x -> crowded(x, longest), x -> x.value(0, 0, 0), 1);
        room("print", x -> crowded(x, longest), x -> x.print(0, 0, 0, 39), 1);
        room("rule, taken", x -> crowded(x, longest), x -> x.rule(0, 4, 9) + x.taken(0, 0), 2);
        room("merge, clash, settle", x -> crowded(x, longest), x -> x.merge() + x.clash(0, 0) + x.settle(0, 1), 3);
        room("merge, take, undo", x -> crowded(x, longest), x -> x.merge() + x.take() + x.undo(), 3);
        room("exchanged", x -> crowded(x, longest), GridMerger::exchanged, 1);
        room("drawn", x -> crowded(x, longest), x -> x.drawn(5, 20), 1);
        room("chance", x -> crowded(x, longest), x -> x.chance(5, 8, 0), 1);
        room("tells", x -> crowded(x, longest), x -> x.tells(0, 0, 0, 0), 1);
        room("tells of RULES", x -> crowded(x, longest), x -> x.tells(0, 0, 0, 1), 1);
        room("film", x -> crowded(x, longest), x -> x.film(0, 0, 0), 1);
        room("image, back", x -> crowded(x, longest), x -> x.image() + x.back(), 2);
        room("count", x -> crowded(x, longest), x -> x.count(5), 1);
        room("sheet, put, copy", x -> crowded(x, longest),
                x -> x.sheet(1, 1, 40) + x.put(1, 39, 9) + x.copy(1, 1, 1, 0, 39), 3);
        CHECK.due("something was answered", kept == 0 ? 0 : 1, 1);
        CHECK.finish();
    }

    /** MINE and THEIRS have 8 ROWS, changed on both sides, BASE's first CELLS FORMULAS that ask all others. */
    private static void crowded(GridMerger x, String text) {
        Check.rows(x, 0, 1, 2, 3, 4, 5, 6, 7, 8);
        for (int column = 0; column < 3; column++) {
            Check.write(x, 0, 0, column, text);
        }
        x.like(1, 0);
        x.like(2, 0);
        for (int row = 0; row < 8; row++) {
            Check.write(x, 1, row, 1, "5");
            Check.write(x, 2, row, 1, "6");
            x.note(1, row, 0, 1);
            x.note(2, row, 0, 2);
        }
        x.film(0, 0, 2);
    }

    /** What 512 calls make, the object itself and what makes it crowded among it. */
    private static void room(String name, Consumer<GridMerger> ahead, ToLongFunction<GridMerger> call, int calls) {
        long thread = Thread.currentThread().getId();
        long before = BEAN.getThreadAllocatedBytes(thread);
        GridMerger x = new GridMerger();
        ahead.accept(x);
        for (int i = 0; i < MOST_CALLS / calls; i++) {
            kept += call.applyAsLong(x);
        }
        long made = BEAN.getThreadAllocatedBytes(thread) - before;
        CHECK.text(name, made < ROOM ? "" : made + " bytes", "");
    }
}
