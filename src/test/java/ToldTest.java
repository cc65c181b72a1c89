/** Promises 23 to 27. */
public final class ToldTest {
    private static final Check CHECK = new Check("ToldTest");

    public static void main(String[] args) {
        tellsTheFirst();
        tellsRules();
        tellsRefusals();
        film();
        imageAndBack();
        backTwice();
        count();
        CHECK.finish();
    }

    private static void due(String call, long got, long want) {
        CHECK.due(call, got, want);
    }

    private static void tellsTheFirst() {
        GridMerger x = new GridMerger();
        Check.rows(x, 0, 1, 2, 3);
        Check.write(x, 0, 0, 1, "5");
        Check.write(x, 0, 1, 1, "=b1*2");
        x.sheet(0, 1, 3);
        x.put(0, 0, 5);
        x.put(0, 1, 10);
        due("all", x.tells(0, 0, 1, 0), -1);
        due("first of another column", x.tells(0, 0, 0, 0), 0);
        x.put(0, 2, 1);
        due("the last is otherwise", x.tells(0, 0, 1, 0), 2);
        Check.write(x, 0, 1, 1, "=#");
        x.put(0, 1, 0);
        due("WRONG is otherwise", x.tells(0, 0, 1, 0), 1);
        x.sheet(0, 0, 2);
        x.put(0, 0, 5);
        due("of shorts", x.tells(0, 0, 1, 0), 1);
        Check.write(x, 0, 1, 1, "");
        due("too few", x.tells(0, 0, 1, 0), 2);
        x.drop(0, 2);
        due("as many", x.tells(0, 0, 1, 0), -1);
        x.drop(0, 1);
        due("too many", x.tells(0, 0, 1, 0), 1);
        due("of MERGED", x.tells(0, 3, 1, 0), 0);
        x.sheet(0, 0, 0);
        due("none of none", x.tells(0, 3, 1, 0), -1);
        x.sheet(0, 0, 1);
        Check.write(x, 0, 0, 1, "65536");
        due("an int isn't its short", x.tells(0, 0, 1, 0), 0);
    }

    private static void tellsRules() {
        GridMerger x = new GridMerger();
        for (int g = 0; g < 3; g++) {
            Check.rows(x, g, 1);
        }
        Check.write(x, 0, 0, 0, "1");
        Check.write(x, 1, 0, 0, "4");
        Check.write(x, 2, 0, 0, "3");
        Check.write(x, 1, 0, 1, "=a1*2");
        x.rule(0, 5, 5);
        int[] values = {4, 3, 6, 5, 1, 7};
        int[] bits = {1 | 4, 2, 8, 16, 32, 0};
        for (int i = 0; i < values.length; i++) {
            x.sheet(1, i % 2, 1);
            x.put(1, 0, values[i]);
            due("RULES of " + values[i], x.tells(1, 0, 0, 1), bits[i]);
            due("grid doesn't matter", x.tells(1, 99, 0, 1), bits[i]);
        }
        x.put(1, 0, 2);
        due("others by their own RULES", x.tells(1, -1, 1, 1), 63);
        x.sheet(1, 1, 2);
        due("too many", x.tells(1, 0, 0, 1), 0);
        due("RULE stays", x.taken(0, 5), 5);
        due("MERGED stays", x.count(3), 0);
        due("no merge()", x.take(), -3);
    }

    private static void tellsRefusals() {
        GridMerger x = new GridMerger();
        x.sheet(0, 1, 8);
        x.sheet(1, 1, 9);
        int[][] bad = {{-1, 0, 0, 0}, {4, 0, 0, 0}, {0, 0, -1, 0}, {0, 0, 3, 0}, {0, 0, 0, -1}, {0, 0, 0, 2}, {0, -1, 0, 0},
            {0, 4, 0, 0}, {2, 4, 0, 0}, {1, 0, 0, 0}, {1, 0, 0, 1}};
        for (int[] b : bad) {
            due("tells BAD", x.tells(b[0], b[1], b[2], b[3]), -2);
        }
        due("missing", x.tells(2, 0, 0, 0), -11);
        due("missing", x.tells(2, 4, 0, 1), -11);
        due("8 numbers", x.tells(0, 0, 0, 0), 0);
        Check.rows(x, 1, 1, 2, 3, 4, 5);
        Check.rows(x, 2, 6, 7, 8, 9);
        due("FULL", x.tells(0, 0, 0, 1), -4);
        due("BAD ahead of FULL", x.tells(1, 0, 0, 1), -2);
        due("missing ahead of FULL", x.tells(2, 0, 0, 1), -11);
        due("the first is not FULL", x.tells(0, 1, 0, 0), 5);
    }

    private static void film() {
        GridMerger x = new GridMerger();
        due("film of none", x.film(3, 3, 2), 0);
        due("it isn't missing", x.put(3, 0, 0), -12);
        Check.rows(x, 0, 1, 2, 3);
        Check.write(x, 0, 0, 2, "999999");
        Check.write(x, 0, 1, 2, "=c2");
        Check.write(x, 0, 2, 2, "=c1*c1");
        x.sheet(1, 0, 40);
        due("film", x.film(1, 0, 2), 3);
        due("tells but the WRONG one", x.tells(1, 0, 2, 0), 1);
        Check.write(x, 0, 1, 2, "0");
        due("0 for WRONG", x.tells(1, 0, 2, 0), -1);
        x.sheet(2, 1, 3);
        due("of ints", x.copy(1, 0, 2, 0, 3), 3);
        due("3 of them", x.put(1, 3, 0), -12);
        int[][] bad = {{-1, 0, 0}, {4, 0, 0}, {0, -1, 0}, {0, 4, 0}, {0, 0, -1}, {0, 0, 3}};
        for (int[] b : bad) {
            due("film BAD", x.film(b[0], b[1], b[2]), -2);
        }
    }

    private static void imageAndBack() {
        GridMerger x = new GridMerger();
        for (int g = 0; g < 3; g++) {
            Check.rows(x, g, 1);
        }
        Check.write(x, 1, 0, 0, "1");
        Check.write(x, 2, 0, 0, "2");
        x.rule(1, 4, 9);
        due("merge", x.merge(), 1);
        due("image", x.image(), 1);
        due("CLASHES stay by image()", x.count(4), 1);
        Check.write(x, 1, 0, 0, "7");
        x.row(0, 0, 9);
        x.merge();
        x.rule(1, 0, 0);
        x.sheet(0, 1, 2);
        Check.feed(x, "123");
        due("back", x.back(), 1);
        due("MINE", x.value(1, 0, 0), 1);
        due("BASE", x.count(0), 1);
        due("RULES", x.taken(1, 3), 9);
        due("MERGED", x.value(3, 0, 0), 1);
        due("no CLASHES", x.count(4), 0);
        due("there was no merge()", x.take(), -3);
        due("CHANGES", x.count(6), 5);
        due("THE TAPE stays", x.count(7), 3);
        due("SHEETS stay", x.put(0, 1, 1), 1);
        due("undo", x.undo(), 4);
        due("as ahead of it", x.told(2, 0, 0, 0), 0);
        x.drop(0, 0);
        x.drop(1, 0);
        x.drop(2, 0);
        x.merge();
        due("how many ROWS MERGED has", x.image(), 0);
    }

    private static void backTwice() {
        GridMerger x = new GridMerger();
        due("none", x.back(), -3);
        Check.rows(x, 0, 1, 2, 3, 4, 5, 6, 7);
        x.image();
        for (int round = 0; round < 2; round++) {
            for (int i = 0; i < 4; i++) {
                Check.write(x, 0, 0, 0, "3");
                x.drop(0, 0);
            }
            due("back", x.back(), 0);
            CHECK.text("KEYS", Check.keys(x, 0), "1 2 3 4 5 6 7");
            for (int i = 5; i >= 0; i--) {
                due("undo", x.undo(), i);
                due("KEYS", x.count(0), i + 1);
            }
            due("no more", x.undo(), -3);
        }
        x.image();
        due("a later one", x.back(), 0);
        due("a later one", x.count(0), 1);
        due("a later one", x.count(6), 0);
        x.merge();
        due("no CLASH, but no merge() either", x.back(), 0);
        due("take", x.take(), -3);
        x.merge();
        due("take after merge()", x.take(), 0);
    }

    private static void count() {
        GridMerger x = new GridMerger();
        Check.rows(x, 0, 1);
        Check.rows(x, 1, 1, 2, 4);
        Check.rows(x, 2, 1, 3);
        x.note(1, 0, 0, 1);
        x.note(2, 0, 0, 2);
        x.note(1, 0, 1, 1);
        x.note(2, 0, 1, 2);
        x.merge();
        x.settle(1, 0);
        Check.feed(x, "=======");
        int[] want = {1, 3, 2, 4, 2, 1, 6, 7};
        for (int what = 0; what < want.length; what++) {
            due("count(" + what + ")", x.count(what), want[what]);
        }
        for (int what : new int[] {-1, 8, Integer.MIN_VALUE, Integer.MAX_VALUE}) {
            due("count BAD", x.count(what), -2);
        }
    }
}
