/** Promises 28 to 30. What a SHEET holds is looked at through tells() of a GRID of known VALUES. */
public final class HostTest {
    private static final Check CHECK = new Check("HostTest");

    public static void main(String[] args) {
        sheet();
        put();
        copy();
        copyWithin();
        copyRefusals();
        CHECK.finish();
    }

    private static void due(String call, long got, long want) {
        CHECK.due(call, got, want);
    }

    private static void holds(String name, GridMerger x, int sheet, int... values) {
        while (x.count(0) > 0) {
            x.drop(0, 0);
        }
        for (int i = 0; i < values.length; i++) {
            x.row(0, i, i + 1);
            Check.write(x, 0, i, 0, "" + values[i]);
        }
        due(name, x.tells(sheet, 0, 0, 0), -1);
    }

    private static void sheet() {
        GridMerger x = new GridMerger();
        due("sheet", x.sheet(0, 0, 3), 1);
        holds("all 0", x, 0, 0, 0, 0);
        due("put", x.put(0, 1, 8), 1);
        due("sheet anew", x.sheet(0, 0, 2), 1);
        holds("all 0 again", x, 0, 0, 0);
        due("of none", x.sheet(0, 1, 0), 1);
        due("no item", x.put(0, 0, 0), -12);
        due("missing", x.sheet(0, -1, 0), 1);
        due("missing", x.put(0, 0, 0), -11);
        due("n does not matter", x.sheet(0, -1, 41), 1);
        due("n does not matter", x.sheet(0, -1, -5), 1);
        due("40", x.sheet(3, 1, 40), 1);
        due("the last", x.put(3, 39, 1), 1);
        due("behind the last", x.put(3, 40, 1), -12);
        int[][] bad = {{-1, 0, 1}, {4, 0, 1}, {0, -2, 1}, {0, 2, 1}, {0, 0, 41}, {-1, 0, -1}, {0, 2, -1}, {4, -1, 0}};
        for (int[] b : bad) {
            due("sheet BAD", x.sheet(b[0], b[1], b[2]), -2);
        }
        due("below 0", x.sheet(3, 0, -1), -14);
        due("below 0", x.sheet(3, 1, Integer.MIN_VALUE), -14);
        due("it stays", x.put(3, 39, 1), 1);
    }

    private static void put() {
        GridMerger x = new GridMerger();
        x.sheet(0, 0, 4);
        x.sheet(1, 1, 2);
        x.put(0, 0, 65535);
        x.put(0, 1, 32768);
        x.put(0, 2, 65536 + 7);
        x.put(0, 3, -32769);
        holds("lowest 16 bits", x, 0, -1, -32768, 7, 32767);
        x.put(1, 0, 65536);
        x.put(1, 1, -999999);
        holds("ints", x, 1, 65536, -999999);
        due("BAD", x.put(-1, 0, 0), -2);
        due("BAD", x.put(4, 0, 0), -2);
        due("missing", x.put(2, 0, 0), -11);
        due("missing ahead of outside", x.put(2, -1, 0), -11);
        due("outside", x.put(1, -1, 0), -12);
        due("outside", x.put(1, 2, 0), -12);
    }

    private static GridMerger counted() {
        GridMerger x = new GridMerger();
        for (int sheet = 0; sheet < 3; sheet++) {
            x.sheet(sheet, sheet == 2 ? 0 : 1, 5);
            for (int i = 0; i < 5; i++) {
                x.put(sheet, i, 10 * sheet + i + 1);
            }
        }
        return x;
    }

    private static void copy() {
        GridMerger x = counted();
        due("copy", x.copy(0, 1, 1, 2, 3), 3);
        holds("to", x, 1, 11, 12, 2, 3, 4);
        holds("from", x, 0, 1, 2, 3, 4, 5);
        due("all", x.copy(0, 0, 1, 0, 5), 5);
        holds("all", x, 1, 1, 2, 3, 4, 5);
        due("none", x.copy(0, 5, 1, 5, 0), 0);
        due("none", x.copy(0, 0, 1, 0, 0), 0);
        x = counted();
        x.sheet(3, 0, 1);
        due("shorts", x.copy(2, 4, 3, 0, 1), 1);
        holds("shorts", x, 3, 25);
    }

    private static void copyWithin() {
        GridMerger x = counted();
        due("on", x.copy(0, 0, 0, 1, 4), 4);
        holds("as they were", x, 0, 1, 1, 2, 3, 4);
        x = counted();
        due("ahead", x.copy(0, 2, 0, 0, 3), 3);
        holds("as they were", x, 0, 3, 4, 5, 4, 5);
    }

    private static void copyRefusals() {
        GridMerger x = counted();
        due("BAD", x.copy(-1, 0, 0, 0, 1), -2);
        due("BAD", x.copy(0, 0, 4, 0, 1), -2);
        due("BAD ahead of missing", x.copy(3, 0, 4, 0, 1), -2);
        due("missing", x.copy(3, 0, 0, 0, 1), -11);
        due("missing", x.copy(0, 0, 3, 0, 1), -11);
        due("unlike sorts", x.copy(0, 0, 2, 0, 1), -13);
        due("unlike sorts ahead of outside", x.copy(2, -1, 0, 0, -1), -13);
        int max = Integer.MAX_VALUE;
        int min = Integer.MIN_VALUE;
        int[][] outside = {{-1, 0, 1}, {0, -1, 1}, {0, 0, -1}, {0, 0, 6}, {3, 0, 3}, {0, 3, 3}, {6, 0, 0}, {0, 6, 0},
            {max, 0, 1}, {0, max, 1}, {0, 0, max}, {max, max, max}, {min, 0, 1}, {0, min, 1}, {0, 0, min}, {5, 0, max}};
        for (int[] o : outside) {
            due("outside", x.copy(0, o[0], 1, o[1], o[2]), -12);
        }
        holds("it stays", x, 1, 11, 12, 13, 14, 15);
    }
}
