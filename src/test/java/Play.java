import java.util.ArrayList;
import java.util.List;
import java.util.function.Consumer;

/** One object and the calls it had, so that a wrong answer is told with the run that led to it. */
final class Play {
    /** The document promises nothing of an object behind so many calls: no test may lean on more. */
    private static final int MOST_CALLS = 512;

    static final class WrongAnswer extends RuntimeException {
        private static final long serialVersionUID = 1;

        WrongAnswer(String told) {
            super(told, null, false, false);
        }
    }

    final class Answer {
        final int got;

        private Answer(int got) {
            this.got = got;
        }

        Play is(int due) {
            if (got != due) {
                throw wrong("due is " + due);
            }
            return Play.this;
        }
    }

    private final GridMerger x = new GridMerger();
    private final List<String> calls = new ArrayList<>();

    static Play of(Consumer<Play> run) {
        Play x = new Play();
        run.accept(x);
        return x;
    }

    private Answer kept(int answer, String name, int... figures) {
        count(answer, name, figures);
        return new Answer(answer);
    }

    private void count(long answer, String name, int... figures) {
        StringBuilder call = new StringBuilder(name).append('(');
        for (int i = 0; i < figures.length; i++) {
            call.append(i == 0 ? "" : ", ").append(figures[i]);
        }
        calls.add(call + ") " + answer);
        if (calls.size() > MOST_CALLS) {
            throw new IllegalStateException("a test makes more than " + MOST_CALLS + " calls of one object");
        }
    }

    WrongAnswer wrong(String due) {
        return new WrongAnswer(due + ", after " + String.join("; ", calls));
    }

    int calls() {
        return calls.size();
    }

    // ---- the face

    Answer feed(int n, int a, int b, int c, int d, int e) {
        return kept(x.feed(n, a, b, c, d, e), "feed", n, a, b, c, d, e);
    }

    Answer write(int grid, int row, int column) {
        return kept(x.write(grid, row, column), "write", grid, row, column);
    }

    Answer row(int grid, int at, int key) {
        return kept(x.row(grid, at, key), "row", grid, at, key);
    }

    Answer drop(int grid, int row) {
        return kept(x.drop(grid, row), "drop", grid, row);
    }

    Answer move(int grid, int row, int to) {
        return kept(x.move(grid, row, to), "move", grid, row, to);
    }

    Answer note(int grid, int row, int column, int v) {
        return kept(x.note(grid, row, column, v), "note", grid, row, column, v);
    }

    Answer fill(int grid, int row, int column, int n) {
        return kept(x.fill(grid, row, column, n), "fill", grid, row, column, n);
    }

    Answer like(int grid, int other) {
        return kept(x.like(grid, other), "like", grid, other);
    }

    Answer told(int grid, int row, int column, int what) {
        return kept(x.told(grid, row, column, what), "told", grid, row, column, what);
    }

    long value(int grid, int row, int column) {
        long answer = x.value(grid, row, column);
        count(answer, "value", grid, row, column);
        return answer;
    }

    Answer print(int grid, int row, int column, int k) {
        return kept(x.print(grid, row, column, k), "print", grid, row, column, k);
    }

    Answer rule(int column, int kind, int figure) {
        return kept(x.rule(column, kind, figure), "rule", column, kind, figure);
    }

    Answer taken(int column, int k) {
        return kept(x.taken(column, k), "taken", column, k);
    }

    Answer merge() {
        return kept(x.merge(), "merge");
    }

    Answer clash(int i, int what) {
        return kept(x.clash(i, what), "clash", i, what);
    }

    Answer settle(int i, int by) {
        return kept(x.settle(i, by), "settle", i, by);
    }

    Answer take() {
        return kept(x.take(), "take");
    }

    Answer undo() {
        return kept(x.undo(), "undo");
    }

    Answer exchanged() {
        return kept(x.exchanged(), "exchanged");
    }

    Answer drawn(int seed, int n) {
        return kept(x.drawn(seed, n), "drawn", seed, n);
    }

    Answer chance(int seed, int m, int part) {
        return kept(x.chance(seed, m, part), "chance", seed, m, part);
    }

    Answer tells(int sheet, int grid, int column, int what) {
        return kept(x.tells(sheet, grid, column, what), "tells", sheet, grid, column, what);
    }

    Answer film(int sheet, int grid, int column) {
        return kept(x.film(sheet, grid, column), "film", sheet, grid, column);
    }

    Answer image() {
        return kept(x.image(), "image");
    }

    Answer back() {
        return kept(x.back(), "back");
    }

    Answer count(int what) {
        return kept(x.count(what), "count", what);
    }

    Answer sheet(int sheet, int sort, int n) {
        return kept(x.sheet(sheet, sort, n), "sheet", sheet, sort, n);
    }

    Answer put(int sheet, int i, int v) {
        return kept(x.put(sheet, i, v), "put", sheet, i, v);
    }

    Answer copy(int sheet, int i, int other, int j, int n) {
        return kept(x.copy(sheet, i, other, j, n), "copy", sheet, i, other, j, n);
    }

    // ---- several calls in one

    /** A text comes onto THE TAPE, which has room for it. */
    Play text(String text) {
        for (int i = 0; i < text.length(); i += 5) {
            int n = Math.min(5, text.length() - i);
            int[] b = new int[5];
            for (int j = 0; j < n; j++) {
                b[j] = text.charAt(i + j);
            }
            if (feed(n, b[0], b[1], b[2], b[3], b[4]).got < n) {
                throw wrong("THE TAPE has room");
            }
        }
        return this;
    }

    Answer write(int grid, int row, int column, String text) {
        return text(text).write(grid, row, column);
    }

    /** ROWS of these KEYS come behind those that a GRID has. */
    Play rows(int grid, int... keys) {
        int rows = count(grid).got;
        for (int key : keys) {
            rows++;
            row(grid, rows - 1, key).is(rows);
        }
        return this;
    }

    Play valueIs(int grid, int row, int column, long due) {
        if (value(grid, row, column) != due) {
            throw wrong("due is " + due);
        }
        return this;
    }

    String printed(int grid, int row, int column) {
        StringBuilder text = new StringBuilder();
        int size = print(grid, row, column, -1).got;
        for (int k = 0; k < size; k++) {
            text.append((char) print(grid, row, column, k).got);
        }
        return text.toString();
    }

    Play prints(int grid, int row, int column, String due) {
        if (!printed(grid, row, column).equals(due)) {
            throw wrong("due is " + due);
        }
        return this;
    }

    String keys(int grid) {
        StringBuilder text = new StringBuilder();
        int rows = count(grid).got;
        for (int i = 0; i < rows; i++) {
            text.append(i == 0 ? "" : " ").append(told(grid, i, 0, 2).got);
        }
        return text.toString();
    }

    Play keysAre(int grid, String due) {
        if (!keys(grid).equals(due)) {
            throw wrong("due are KEYS " + due);
        }
        return this;
    }

    /** CLASH i is of this kind, KEY and column. */
    Play clashIs(int i, int which, int key, int column) {
        clash(i, 0).is(which);
        clash(i, 1).is(key);
        clash(i, 2).is(column);
        return this;
    }
}
