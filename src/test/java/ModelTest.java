/** Runs of drawn calls, wrong ones among them: GridMerger and Model answer alike, and stand alike after each. */
public final class ModelTest {
    private static final int RUNS = 400;
    private static final int CALLS = 512;
    private static final int[] FAR = {-1, -2, Integer.MIN_VALUE, Integer.MAX_VALUE, 8, 9, 40, 41, 100, 256};

    private final Check check = new Check("ModelTest");
    private long state;
    private GridMerger real;
    private Model model;
    private int run;
    private int call;

    public static void main(String[] args) {
        ModelTest test = new ModelTest();
        for (int run = 1; run <= RUNS; run++) {
            test.run(run);
        }
        test.check.finish();
    }

    private int below(int n) {
        state = state * 6364136223846793005L + 1442695040888963407L;
        return (int) ((state >>> 33) % n);
    }

    /** Mostly one that is asked for, now and then one far from it. */
    private int some(int least, int most) {
        return below(60) == 0 ? FAR[below(FAR.length)] : least + below(most - least + 1);
    }

    private void run(int number) {
        run = number;
        state = number;
        real = new GridMerger();
        model = new Model();
        for (call = 1; call <= CALLS; call++) {
            step();
            if (call % 16 == 0) {
                compareAll();
            }
        }
    }

    private void due(String name, long got, long want) {
        check.due("run " + run + ", call " + call + ": " + name, got, want);
    }

    private void step() {
        int what = below(100);
        if (what < 30) {
            writeText();
        } else if (what < 56) {
            changeRows();
        } else if (what < 80) {
            merging();
        } else if (what < 90) {
            inThought();
        } else {
            host();
        }
    }

    private int rowOf(int grid) {
        int rows = grid >= 0 && grid < 4 ? Math.max(1, real.count(grid)) : 8;
        return some(0, rows - 1);
    }

    private void writeText() {
        int grid = some(0, 2);
        int row = rowOf(grid);
        int column = some(0, 2);
        String text = below(4) == 0 ? number() : below(30) == 0 ? "" : "=" + sum(3);
        if (below(8) == 0) {
            text = broken(text);
        }
        text = text.length() > 40 ? text.substring(0, 40) : text;
        for (int i = 0; i < text.length(); i += 5) {
            int n = Math.min(5, text.length() - i);
            int[] b = new int[5];
            for (int j = 0; j < n; j++) {
                b[j] = text.charAt(i + j);
            }
            due("feed", real.feed(n, b[0], b[1], b[2], b[3], b[4]), model.feed(n, b[0], b[1], b[2], b[3], b[4]));
        }
        due("write(" + grid + ", " + row + ", " + column + ") of " + text, real.write(grid, row, column),
                model.write(grid, row, column));
    }

    private String number() {
        return (below(3) == 0 ? "-" : "") + (below(3) == 0 ? below(1100000) : below(12));
    }

    private String broken(String text) {
        String signs = "=+-*():$# \nabctmx019A/total";
        int at = below(text.length() + 1);
        int cut = below(2) == 0 ? at : Math.min(text.length(), at + 1);
        return text.substring(0, at) + signs.charAt(below(signs.length())) + text.substring(cut);
    }

    private String blank() {
        return below(25) == 0 ? " " : below(60) == 0 ? "\n" : "";
    }

    private String sum(int depth) {
        String text = part(depth);
        for (int i = below(3); i > 0; i--) {
            text += blank() + (below(2) == 0 ? "+" : "-") + part(depth);
        }
        return text;
    }

    private String part(int depth) {
        String text = one(depth);
        if (below(4) == 0) {
            text += "*" + blank() + one(depth);
        }
        return text;
    }

    private String one(int depth) {
        int which = below(depth > 0 ? 10 : 7);
        if (which < 2) {
            return blank() + (below(5) == 0 ? "0" : "") + below(which == 0 ? 10 : 1000);
        }
        if (which < 5) {
            return blank() + ref();
        }
        if (which < 7) {
            String[] words = {"total", "most", "least", "many"};
            return words[below(4)] + blank() + "(" + ref() + ":" + blank() + ref() + ")";
        }
        return which == 7 ? "-" + one(depth) : which == 8 ? "--" + one(depth - 1) : "(" + sum(depth - 1) + ")";
    }

    private String ref() {
        if (below(30) == 0) {
            return "#";
        }
        return (below(4) == 0 ? "$" : "") + "abc".charAt(below(3)) + blank() + (1 + below(below(5) == 0 ? 9 : 4));
    }

    private void changeRows() {
        int grid = some(0, 2);
        int row = rowOf(grid);
        int column = some(0, 2);
        switch (below(7)) {
            case 0:
            case 1:
                int key = some(1, 9);
                due("row", real.row(grid, row, key), model.row(grid, row, key));
                break;
            case 2:
                due("drop", real.drop(grid, row), model.drop(grid, row));
                break;
            case 3:
                int to = rowOf(grid);
                due("move", real.move(grid, row, to), model.move(grid, row, to));
                break;
            case 4:
                int v = some(0, 3);
                due("note", real.note(grid, row, column, v), model.note(grid, row, column, v));
                break;
            case 5:
                int n = some(1, 7);
                due("fill", real.fill(grid, row, column, n), model.fill(grid, row, column, n));
                break;
            default:
                int other = some(0, 3);
                due("like", real.like(grid, other), model.like(grid, other));
                break;
        }
    }

    private void merging() {
        int column = some(0, 2);
        int kind = some(0, 5);
        switch (below(9)) {
            case 0:
                int figure = below(2) == 0 ? some(0, 99) : some(0, 12);
                due("rule", real.rule(column, kind, figure), model.rule(column, kind, figure));
                break;
            case 1:
                due("taken", real.taken(column, kind), model.taken(column, kind));
                break;
            case 2:
            case 3:
            case 4:
                due("merge", real.merge(), model.merge());
                compareAll();
                settleSome();
                break;
            case 5:
                due("take", real.take(), model.take());
                break;
            case 6:
            case 7:
                due("undo", real.undo(), model.undo());
                break;
            default:
                boolean isImage = below(3) > 0;
                due("image or back", isImage ? real.image() : real.back(), isImage ? model.image() : model.back());
                break;
        }
    }

    private void settleSome() {
        boolean isAll = below(3) == 0;
        int n = isAll ? real.count(4) : below(4);
        for (int k = 0; k < n; k++) {
            int i = isAll ? k : some(0, Math.max(1, real.count(4)));
            int by = some(0, 2);
            due("settle", real.settle(i, by), model.settle(i, by));
        }
        if (below(2) == 0) {
            compareAll();
            due("take", real.take(), model.take());
        }
    }

    private void inThought() {
        int seed = below(2) == 0 ? below(1000) : FAR[below(FAR.length)];
        switch (below(4)) {
            case 0:
                due("exchanged", real.exchanged(), model.exchanged());
                break;
            case 1:
                int n = some(0, 20);
                due("drawn", real.drawn(seed, n), model.drawn(seed, n));
                break;
            default:
                int m = some(1, 8);
                int part = some(0, 1);
                due("chance", real.chance(seed, m, part), model.chance(seed, m, part));
                break;
        }
    }

    private void host() {
        int sheet = some(0, 3);
        int grid = some(0, 3);
        int column = some(0, 2);
        switch (below(6)) {
            case 0:
                int sort = some(-1, 1);
                int size = below(5) == 0 ? some(-1, 41) : some(0, 8);
                due("sheet", real.sheet(sheet, sort, size), model.sheet(sheet, sort, size));
                break;
            case 1:
                int i = some(0, 6);
                int v = below(3) == 0 ? below(70000) : below(9);
                due("put", real.put(sheet, i, v), model.put(sheet, i, v));
                break;
            case 2:
                int other = some(0, 3);
                int from = some(0, 4);
                int to = some(0, 4);
                int n = some(0, 4);
                due("copy", real.copy(sheet, from, other, to, n), model.copy(sheet, from, other, to, n));
                break;
            case 3:
                due("film", real.film(sheet, grid, column), model.film(sheet, grid, column));
                break;
            default:
                int what = some(0, 1);
                due("tells", real.tells(sheet, grid, column, what), model.tells(sheet, grid, column, what));
                break;
        }
    }

    /** All that can be told, by both; the calls that tell it change nothing. */
    private void compareAll() {
        for (int what = -1; what <= 8; what++) {
            due("count(" + what + ")", real.count(what), model.count(what));
        }
        for (int grid = 0; grid < 4; grid++) {
            for (int cell = 0; cell < real.count(grid) * 3; cell++) {
                compareCell(grid, cell / 3, cell % 3);
            }
        }
        for (int i = -1; i <= real.count(4); i++) {
            for (int what = -1; what <= 4; what++) {
                due("clash(" + i + ", " + what + ")", real.clash(i, what), model.clash(i, what));
            }
        }
    }

    private void compareCell(int grid, int row, int column) {
        String name = "(" + grid + ", " + row + ", " + column + ")";
        for (int what = 0; what < 4; what++) {
            due("told" + name + what, real.told(grid, row, column, what), model.told(grid, row, column, what));
        }
        due("value" + name, real.value(grid, row, column), model.value(grid, row, column));
        int size = real.print(grid, row, column, -1);
        for (int k = -2; k <= size; k++) {
            due("print" + name + k, real.print(grid, row, column, k), model.print(grid, row, column, k));
        }
    }
}
