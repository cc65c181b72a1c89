import java.util.ArrayList;
import java.util.List;

/**
 * Promises that are of a whole GRID, or of any ROW of it, with 8 ROWS whose 24 CELLS and NOTES are all unlike: none may be
 * left out, lost or taken for another one.
 */
public final class WholeEdgesTest {
    private static final Edges EDGES = new Edges("WholeEdgesTest");
    private static final String[] WORDS = {"total", "most", "least", "many"};

    /** What a ROW is to be: its KEY, and of each column what is written there and the NOTE. */
    private record Line(int key, String[] texts, int[] notes) {
        static Line empty(int key) {
            return new Line(key, new String[] {"", "", ""}, new int[3]);
        }

        Line with(int column, String text) {
            String[] changed = texts.clone();
            changed[column] = text;
            return new Line(key, changed, notes);
        }
    }

    public static void main(String[] args) {
        edge(4, "the others stay as they were, the new one is EMPTY, at each place", WholeEdgesTest::row);
        edge(5, "the others stay as they were, whichever goes", WholeEdgesTest::drop);
        edge(6, "from each place to each: all ROWS stay as they were", WholeEdgesTest::move);
        edge(8, "from each CELL, n ROWS on: those alone get its CONTENT", WholeEdgesTest::fill);
        edge(8, "each REF from each ROW: to the ROW as many places below its own", WholeEdgesTest::fillOfRefs);
        edge(9, "all of another one", WholeEdgesTest::like);
        edge(11, "many counts each CELL of the RANGE", () -> ranges("many", 1));
        edge(11, "total adds each CELL of the RANGE", () -> ranges("total", 7));
        edge(3, "WORDS stand wherever a ONE may, behind TOKENS of any size", WholeEdgesTest::words);
        edge(15, "MERGED has all of them", WholeEdgesTest::merge);
        edge(15, "in one of them and in BASE, and not CHANGED: not in MERGED", WholeEdgesTest::unchanged);
        edge(18, "MERGED becomes BASE, MINE and THEIRS, all of it", WholeEdgesTest::take);
        edge(19, "the three are as ahead of it, all of them", WholeEdgesTest::undo);
        edge(26, "all GRIDS are as in THE IMAGE, all of them", WholeEdgesTest::back);
        EDGES.finish(3, 4, 5, 6, 8, 9, 11, 15, 18, 19, 26);
    }

    private static void edge(int promise, String sentence, Runnable body) {
        EDGES.edge(promise, sentence, body);
    }

    /** NUMBERS, FORMULAS and EMPTY ones in turn; by grid all are unlike those of another one. */
    private static List<Line> lines(int grid, int rows) {
        List<Line> lines = new ArrayList<>();
        for (int row = 0; row < rows; row++) {
            String[] texts = new String[3];
            int[] notes = new int[3];
            for (int column = 0; column < 3; column++) {
                int figure = 100 * grid + 10 * row + column;
                int kind = (row + column + grid) % 3;
                texts[column] = kind == 0 ? "" + figure : kind == 1 ? "=" + figure : "";
                notes[column] = 1 + 12 * row + 4 * column + grid;
            }
            lines.add(new Line(11 + row + 10 * grid, texts, notes));
        }
        return lines;
    }

    private static void make(Play x, int grid, List<Line> lines) {
        for (int row = 0; row < lines.size(); row++) {
            Line line = lines.get(row);
            x.row(grid, row, line.key).is(row + 1);
            for (int column = 0; column < 3; column++) {
                if (!line.texts[column].isEmpty()) {
                    x.write(grid, row, column, line.texts[column]);
                }
                x.note(grid, row, column, line.notes[column]).is(0);
            }
        }
    }

    private static Play of(int grid, List<Line> lines) {
        return Play.of(x -> make(x, grid, lines));
    }

    private static void is(Play x, int grid, List<Line> lines) {
        x.count(grid).is(lines.size());
        for (int row = 0; row < lines.size(); row++) {
            Line line = lines.get(row);
            x.told(grid, row, 0, 2).is(line.key);
            for (int column = 0; column < 3; column++) {
                String text = line.texts[column];
                boolean isFormula = text.startsWith("=");
                String figure = isFormula ? text.substring(1) : text;
                x.told(grid, row, column, 0).is(text.isEmpty() ? 0 : isFormula ? 2 : 1);
                x.valueIs(grid, row, column, text.isEmpty() ? 0 : Long.parseLong(figure));
                x.told(grid, row, column, 1).is(line.notes[column]);
            }
        }
    }

    private static void row() {
        for (int grid = 0; grid < 3; grid++) {
            for (int at = 0; at <= 7; at++) {
                List<Line> lines = lines(grid, 8);
                Play x = of(grid, lines);
                x.drop(grid, 7);
                lines.remove(7);
                x.row(grid, at, 99).is(8);
                lines.add(at, Line.empty(99));
                is(x, grid, lines);
            }
        }
    }

    private static void drop() {
        for (int grid = 0; grid < 3; grid++) {
            for (int row = 0; row < 8; row++) {
                List<Line> lines = lines(grid, 8);
                Play x = of(grid, lines);
                x.drop(grid, row).is(lines.remove(row).key);
                is(x, grid, lines);
            }
        }
    }

    private static void move() {
        for (int row = 0; row < 8; row++) {
            for (int to = 0; to < 8; to++) {
                List<Line> lines = lines(row % 3, 8);
                Play x = of(row % 3, lines);
                x.move(row % 3, row, to).is(lines.get(row).key);
                lines.add(to, lines.remove(row));
                is(x, row % 3, lines);
            }
        }
    }

    private static void fill() {
        for (int row = 0; row < 8; row++) {
            for (int column = 0; column < 3; column++) {
                for (int n = 1; n <= 7; n++) {
                    List<Line> lines = lines(n % 3, 8);
                    Play x = of(n % 3, lines);
                    x.fill(n % 3, row, column, n).is(Math.min(n, 7 - row));
                    for (int i = row + 1; i < 8 && i <= row + n; i++) {
                        lines.set(i, lines.get(i).with(column, lines.get(row).texts[column]));
                    }
                    is(x, n % 3, lines);
                }
            }
        }
    }

    private static void fillOfRefs() {
        for (int row = 0; row < 7; row++) {
            for (int of = 0; of < 8; of++) {
                Play x = Play.of(y -> Edges.eightRows(y, 0));
                x.write(0, row, 1, "=a" + (of + 1) + "-$c" + (of + 1));
                x.fill(0, row, 1, 7).is(7 - row);
                x.prints(0, row, 1, "=a" + (of + 1) + "-$c" + (of + 1));
                for (int down = 1; row + down < 8; down++) {
                    x.prints(0, row + down, 1, "=" + (of + down < 8 ? "a" + (of + down + 1) : "#") + "-$c" + (of + 1));
                }
            }
        }
    }

    private static void like() {
        for (int grid = 0; grid < 3; grid++) {
            for (int other = 0; other < 4; other++) {
                if (grid != other) {
                    List<Line> lines = lines(other % 3, 8);
                    Play x = of(other == 3 ? 2 : other, lines);
                    if (other == 3) {
                        x.merge();
                    }
                    x.like(grid, other).is(8);
                    is(x, grid, lines);
                    is(x, other, lines);
                }
            }
        }
    }

    /** One CELL alone isn't EMPTY: it counts, if it is in the RANGE, and not, if it isn't. */
    private static void ranges(String word, int due) {
        for (int cell = 0; cell < 24; cell++) {
            Play x = Play.of(y -> Edges.eightRows(y, 0));
            x.write(0, cell / 3, cell % 3, "7");
            int asker = cell == 0 ? 23 : 0;
            for (int from = 0; from < 24; from += 7) {
                for (int to = 0; to < 24; to += 5) {
                    boolean isOut = !isWithin(asker, from, to);
                    if (isOut) {
                        x.write(0, asker / 3, asker % 3, "=" + word + "(" + name(from) + ":" + name(to) + ")").is(2);
                        x.valueIs(0, asker / 3, asker % 3, isWithin(cell, from, to) ? due : 0);
                    }
                }
            }
        }
    }

    private static boolean isWithin(int cell, int from, int to) {
        return cell / 3 >= Math.min(from / 3, to / 3) && cell / 3 <= Math.max(from / 3, to / 3)
                && cell % 3 >= Math.min(from % 3, to % 3) && cell % 3 <= Math.max(from % 3, to % 3);
    }

    private static String name(int cell) {
        return "" + "abc".charAt(cell % 3) + (cell / 3 + 1);
    }

    private static void words() {
        for (String word : WORDS) {
            String range = word + "(a1:b1)";
            String[] ahead = {"=", " =", "= ", "=1+", "=12+", "=-", "=(", "=a1*", "=\n 123456 -", "=((-", "=" + range + "-"};
            for (String text : ahead) {
                String behind = ")".repeat((int) text.chars().filter(v -> v == '(').count() - (text.contains(":") ? 1 : 0));
                Play x = new Play().rows(0, 5);
                x.write(0, 0, 2, text + range + behind).is(2);
                x.prints(0, 0, 2, (text + range + behind).replaceAll("[ \n]", "")).told(0, 0, 2, 3).is(0);
            }
        }
    }

    private static void merge() {
        for (int holder = 1; holder <= 2; holder++) {
            Play x = of(holder, lines(0, 8));
            x.merge().is(0);
            is(x, 3, lines(0, 8));
            x.like(3 - holder, holder);
            x.merge().is(0);
            is(x, 3, lines(0, 8));
        }
    }

    private static void unchanged() {
        for (int holder = 1; holder <= 2; holder++) {
            Play x = of(0, lines(0, 8));
            x.like(holder, 0);
            x.merge().is(0);
            x.count(3).is(0);
            for (int cell = 0; cell < 24; cell++) {
                int row = cell / 3;
                int key = 11 + row;
                int note = x.note(holder, row, cell % 3, 0).got;
                x.merge().is(1);
                x.clashIs(0, 2, key, -1).keysAre(3, "" + key);
                x.note(holder, row, cell % 3, note).is(0);
            }
            x.merge().is(0);
        }
    }

    private static void take() {
        Play x = of(1, lines(1, 8));
        x.merge().is(0);
        x.take().is(8);
        for (int grid = 0; grid <= 3; grid++) {
            is(x, grid, lines(1, 8));
        }
    }

    private static void undo() {
        for (int grid = 0; grid < 3; grid++) {
            Play x = of(grid, lines(2, 8));
            x.like(grid, (grid + 1) % 3).is(0);
            x.undo().is(5);
            is(x, grid, lines(2, 8));
            x.drop(grid, 0);
            x.move(grid, 0, 6);
            x.fill(grid, 0, 1, 7);
            x.undo();
            x.undo();
            x.undo().is(3);
            is(x, grid, lines(2, 8));
        }
    }

    private static void back() {
        for (int grid = 0; grid < 3; grid++) {
            Play x = of(grid, lines(1, 8));
            int holder = Math.max(grid, 1);
            x.like(holder, grid == 0 ? 0 : 3);
            x.undo();
            x.merge().is(0);
            x.image().is(grid == 0 ? 0 : 8);
            x.like(grid, (grid + 1) % 3).is(0);
            x.merge().is(0);
            x.count(3).is(0);
            x.back().is(grid == 0 ? 0 : 8);
            is(x, grid, lines(1, 8));
            if (grid > 0) {
                is(x, 3, lines(1, 8));
            }
        }
    }
}
