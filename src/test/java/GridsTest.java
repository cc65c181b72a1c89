/** Promises 1 to 12. */
public final class GridsTest {
    private static final Check CHECK = new Check("GridsTest");

    public static void main(String[] args) {
        newObject();
        feed();
        writeKinds();
        writeFaults();
        writeRefusals();
        row();
        drop();
        move();
        note();
        fill();
        like();
        told();
        value();
        rangesAndWrongs();
        print();
        CHECK.finish();
    }

    private static void due(String call, long got, long want) {
        CHECK.due(call, got, want);
    }

    private static void newObject() {
        GridMerger x = new GridMerger();
        for (int what = 0; what <= 7; what++) {
            due("new: count(" + what + ")", x.count(what), 0);
        }
        for (int column = 0; column < 3; column++) {
            due("new: taken", x.taken(column, 0), 0);
            due("new: taken", x.taken(column, 1), -13);
        }
        for (int sheet = 0; sheet < 4; sheet++) {
            due("new: put", x.put(sheet, 0, 0), -11);
        }
        due("new: undo", x.undo(), GridMerger.STATE);
        due("new: back", x.back(), GridMerger.STATE);
        due("new: take", x.take(), GridMerger.STATE);
        due("new: merge", x.merge(), 0);
        due("new: take of nothing", x.take(), 0);
    }

    private static void feed() {
        GridMerger x = new GridMerger();
        due("feed none", x.feed(0, 1, 1, 1, 1, 1), -2);
        due("feed 6", x.feed(6, 1, 1, 1, 1, 1), -2);
        for (int i = 0; i < 5; i++) {
            for (int v : new int[] {-1, 256}) {
                int[] b = new int[5];
                b[i] = v;
                due("feed " + v + " as byte " + i, x.feed(1, b[0], b[1], b[2], b[3], b[4]), -2);
            }
        }
        due("nothing came", x.count(7), 0);
        for (int i = 1; i <= 7; i++) {
            due("feed 5", x.feed(5, 0, 255, 0, 255, 0), 5 * i);
        }
        due("feed 4", x.feed(4, 32, 32, 32, 32, 0), 39);
        due("no room for 2", x.feed(2, 32, 32, 0, 0, 0), -4);
        due("BAD ahead of FULL", x.feed(2, 32, 32, 0, 0, 256), -2);
        due("still 39", x.count(7), 39);
        due("feed the last", x.feed(1, 32, 0, 0, 0, 0), 40);
        due("no room", x.feed(1, 32, 0, 0, 0, 0), -4);
    }

    private static GridMerger rowsOfBase(int n) {
        GridMerger x = new GridMerger();
        for (int i = 0; i < n; i++) {
            x.row(0, i, 10 * (i + 1));
        }
        return x;
    }

    private static void writeKinds() {
        GridMerger x = rowsOfBase(8);
        String[] texts = {"", " \n ", "5", " - 7 ", "000012", "-0", "=5", "= a1 + $ b 02 * ( - c8 - 3 )",
            "=total(a1:c8)+most(#:$a1)-least(a1:a1)", "=many ( a1 : b 1 )", "=----1", "=((((1))))", "=-(-(1))--1", "=#"};
        int[] kinds = {0, 0, 1, 1, 1, 1, 2, 2, 2, 2, 2, 2, 2, 2};
        String[] printed = {"", "", "5", "-7", "12", "0", "=5", "=a1+$b2*(-c8-3)",
            "=total(a1:c8)+most(#:$a1)-least(a1:a1)", "=many(a1:b1)", "=----1", "=((((1))))", "=-(-(1))--1", "=#"};
        for (int i = 0; i < texts.length; i++) {
            due("write " + texts[i], Check.write(x, 0, 7, 2, texts[i]), kinds[i]);
            due("told " + texts[i], x.told(0, 7, 2, 0), kinds[i]);
            CHECK.text("print " + texts[i], Check.printed(x, 0, 7, 2), printed[i]);
            due("THE TAPE is empty", x.count(7), 0);
        }
    }

    private static void writeFaults() {
        GridMerger x = rowsOfBase(3);
        String[] texts = {"x", "5 5", "1234567", "0000001", "-", "- ", "--5", "+5", "=", "= ", "=a", "=a ", "=a4", "=a0",
            "=a9", "=a0000001", "=ab1", "=A1", "=$5", "=$", "=$#", "=$total(a1:a1)", "=(1", "=(1))", "=1 2", "=1+",
            "=1++1", "=*1", "=total", "=total a1", "=total(", "=total(a1", "=total(a1:", "=total(a1:a4)", "=total(a1:b2",
            "=total(1:a1)", "=total(-a1:a1)", "=totals(a1:a1)", "=-----1", "=(((((1)))))", "=-(-(-1))", "=5=5", "5a",
            "=1/2", "\t5", "=a1:a2", "=()", "=#1", "=1.5", "a1", "=a1b1", "=most(#:a1", "=$a", "= \n 9999999",
            "=az1", "=d1", "=fost(a1:a1)", "=2*", "=2*3*)", "=-", "=(2*", "=a1+z"};
        int[] places = {0, 2, 0, 0, 1, 2, 1, 0, 1, 2, 2, 3, 2, 2,
            2, 2, 1, 1, 2, 2, 2, 2, 3, 4, 3, 3,
            3, 1, 6, 7, 7, 9, 10, 11, 12,
            7, 7, 1, 5, 5, 5, 2, 1,
            2, 0, 3, 2, 2, 2, 0, 3, 10, 3, 4,
            1, 1, 1, 3, 5, 2, 4, 4};
        Check.write(x, 0, 0, 0, "77");
        int changes = x.count(6);
        for (int i = 0; i < texts.length; i++) {
            due("write " + texts[i], Check.write(x, 0, 0, 0, texts[i]), -100 - places[i]);
            due("THE TAPE is empty by a FAULT", x.count(7), 0);
            due("it stays", x.value(0, 0, 0), 77);
        }
        due("a FAULT is no CHANGE", x.count(6), changes);
        due("all 40", Check.write(x, 0, 0, 0, "=1+1+1+1+1+1+1+1+1+1+1+1+1+1+1+1+1+1+1+1"), 2);
        due("all 40", x.value(0, 0, 0), 20);
        due("ends too early", Check.write(x, 0, 0, 0, "=11+1+1+1+1+1+1+1+1+1+1+1+1+1+1+1+1+1+1+"), -140);
    }

    private static void writeRefusals() {
        GridMerger x = rowsOfBase(1);
        Check.feed(x, "5");
        int[][] bad = {{-1, 0, 0}, {3, 0, 0}, {4, 0, 0}, {0, -1, 0}, {0, 1, 0}, {1, 0, 0}, {0, 0, -1}, {0, 0, 3}};
        for (int[] b : bad) {
            due("write BAD", x.write(b[0], b[1], b[2]), -2);
            due("THE TAPE stays", x.count(7), 1);
        }
        due("write", x.write(0, 0, 0), 1);
    }

    private static void row() {
        GridMerger x = new GridMerger();
        due("row", x.row(1, 0, 1), 1);
        due("row ahead", x.row(1, 0, 99), 2);
        due("row between", x.row(1, 1, 50), 3);
        CHECK.text("rows", Check.keys(x, 1), "99 50 1");
        due("other GRIDS stay", x.count(0) + x.count(2) + x.count(3), 0);
        int[][] bad = {{-1, 0, 5}, {3, 0, 5}, {1, -1, 5}, {1, 4, 5}, {1, 0, 0}, {1, 0, 100}, {1, 0, -5}};
        for (int[] b : bad) {
            due("row BAD", x.row(b[0], b[1], b[2]), -2);
        }
        due("BAD ahead of STATE", x.row(1, 4, 50), -2);
        due("KEY is there", x.row(1, 3, 50), -3);
        for (int key = 2; key <= 6; key++) {
            x.row(1, 0, key);
        }
        due("FULL", x.row(1, 8, 7), -4);
        due("STATE ahead of FULL", x.row(1, 8, 6), -3);
        for (int column = 0; column < 3; column++) {
            Check.write(x, 1, 7, column, "4");
            x.note(1, 7, column, 4);
        }
        x.drop(1, 7);
        x.row(1, 7, 8);
        for (int column = 0; column < 3; column++) {
            due("a new ROW is EMPTY", x.told(1, 7, column, 0), 0);
            due("a new ROW has no NOTE", x.told(1, 7, column, 1), 0);
        }
    }

    private static void drop() {
        GridMerger x = rowsOfBase(3);
        Check.write(x, 0, 1, 0, "=a3");
        Check.write(x, 0, 2, 0, "3");
        due("drop", x.drop(0, 0), 10);
        CHECK.text("rest", Check.keys(x, 0), "20 30");
        due("CELLS go with their ROW", x.value(0, 0, 0), 3);
        CHECK.text("REF follows", Check.printed(x, 0, 0, 0), "=a2");
        int[][] bad = {{-1, 0}, {3, 0}, {0, -1}, {0, 2}, {1, 0}};
        for (int[] b : bad) {
            due("drop BAD", x.drop(b[0], b[1]), -2);
        }
        due("drop the last", x.drop(0, 1), 30);
        CHECK.text("LOST", Check.printed(x, 0, 0, 0), "=#");
        x.row(0, 0, 30);
        CHECK.text("found again by its KEY", Check.printed(x, 0, 1, 0), "=a1");
    }

    private static void move() {
        GridMerger x = rowsOfBase(4);
        Check.write(x, 0, 0, 1, "8");
        x.note(0, 0, 1, 9);
        due("move down", x.move(0, 0, 2), 10);
        CHECK.text("moved down", Check.keys(x, 0), "20 30 10 40");
        due("CELL", x.value(0, 2, 1), 8);
        due("NOTE", x.told(0, 2, 1, 1), 9);
        due("move up", x.move(0, 3, 0), 40);
        CHECK.text("moved up", Check.keys(x, 0), "40 20 30 10");
        int changes = x.count(6);
        due("move to its own place", x.move(0, 1, 1), 20);
        due("is a CHANGE", x.undo(), changes - 1);
        int[][] bad = {{-1, 0, 0}, {3, 0, 0}, {0, -1, 0}, {0, 4, 0}, {0, 0, -1}, {0, 0, 4}, {1, 0, 0}};
        for (int[] b : bad) {
            due("move BAD", x.move(b[0], b[1], b[2]), -2);
        }
    }

    private static void note() {
        GridMerger x = rowsOfBase(2);
        due("note", x.note(0, 1, 2, 99), 0);
        due("note again", x.note(0, 1, 2, 0), 99);
        due("note what was", x.note(0, 1, 2, 7), 0);
        due("others stay", x.told(0, 1, 1, 1) + x.told(0, 0, 2, 1), 0);
        int[][] bad = {{-1, 0, 0, 1}, {3, 0, 0, 1}, {0, 2, 0, 1}, {0, -1, 0, 1}, {0, 0, 3, 1}, {0, 0, -1, 1},
            {0, 0, 0, -1}, {0, 0, 0, 100}};
        for (int[] b : bad) {
            due("note BAD", x.note(b[0], b[1], b[2], b[3]), -2);
        }
    }

    private static void fill() {
        GridMerger x = rowsOfBase(4);
        Check.write(x, 0, 0, 1, "=a1+$a1*total(a2:$c3)-#");
        x.note(0, 0, 1, 5);
        due("fill", x.fill(0, 0, 1, 2), 2);
        CHECK.text("1 down", Check.printed(x, 0, 1, 1), "=a2+$a1*total(a3:$c3)-#");
        CHECK.text("2 down", Check.printed(x, 0, 2, 1), "=a3+$a1*total(a4:$c3)-#");
        due("only n", x.told(0, 3, 1, 0), 0);
        due("NOTE is not filled", x.told(0, 1, 1, 1), 0);
        due("fill as many as there are", x.fill(0, 2, 1, 7), 1);
        CHECK.text("no such ROW", Check.printed(x, 0, 3, 1), "=a4+$a1*total(#:$c3)-#");
        x.drop(0, 0);
        due("fill of LOST", x.fill(0, 0, 1, 1), 1);
        CHECK.text("LOST stays by $", Check.printed(x, 0, 1, 1), "=a2+#*total(a3:$c2)-#");
        x.row(0, 0, 10);
        CHECK.text("$ is to its KEY yet", Check.printed(x, 0, 2, 1), "=a3+$a1*total(a4:$c3)-#");
        Check.write(x, 0, 0, 0, "6");
        due("fill a NUMBER", x.fill(0, 0, 0, 3), 3);
        due("filled", x.value(0, 3, 0), 6);
        Check.write(x, 0, 0, 0, "");
        x.fill(0, 0, 0, 1);
        due("filled EMPTY", x.told(0, 1, 0, 0), 0);
        x.undo();
        int changes = x.count(6);
        due("fill from the last ROW", x.fill(0, 3, 0, 1), 0);
        due("is a CHANGE", x.count(6), changes + 1);
        int[][] bad = {{-1, 0, 0, 1}, {3, 0, 0, 1}, {0, 4, 0, 1}, {0, -1, 0, 1}, {0, 0, 3, 1}, {0, 0, -1, 1},
            {0, 0, 0, 0}, {0, 0, 0, 8}};
        for (int[] b : bad) {
            due("fill BAD", x.fill(b[0], b[1], b[2], b[3]), -2);
        }
    }

    private static void like() {
        GridMerger x = rowsOfBase(2);
        Check.write(x, 0, 0, 0, "=a2");
        Check.write(x, 0, 1, 0, "4");
        x.note(0, 1, 1, 3);
        due("like", x.like(1, 0), 2);
        CHECK.text("KEYS", Check.keys(x, 1), "10 20");
        due("VALUE", x.value(1, 0, 0), 4);
        due("NOTE", x.told(1, 1, 1, 1), 3);
        Check.write(x, 1, 1, 0, "5");
        due("its own", x.value(1, 0, 0), 5);
        due("not the other's", x.value(0, 0, 0), 4);
        x.like(2, 0);
        x.merge();
        due("like MERGED", x.like(0, 3), 2);
        due("VALUE of MERGED", x.value(0, 0, 0), 5);
        int[][] bad = {{-1, 0}, {3, 0}, {0, -1}, {0, 4}, {0, 0}, {1, 1}, {2, 2}};
        for (int[] b : bad) {
            due("like BAD", x.like(b[0], b[1]), -2);
        }
    }

    private static void told() {
        GridMerger x = rowsOfBase(2);
        Check.write(x, 0, 0, 0, "4");
        Check.write(x, 0, 0, 1, "=#");
        Check.write(x, 0, 0, 2, "=c1");
        x.note(0, 0, 1, 11);
        due("EMPTY", x.told(0, 1, 0, 0), 0);
        due("NUMBER", x.told(0, 0, 0, 0), 1);
        due("FORMULA", x.told(0, 0, 1, 0), 2);
        due("NOTE", x.told(0, 0, 1, 1), 11);
        due("KEY", x.told(0, 1, 2, 2), 20);
        due("right", x.told(0, 0, 0, 3), 0);
        due("EMPTY is right", x.told(0, 1, 0, 3), 0);
        due("LOST", x.told(0, 0, 1, 3), -5);
        due("RING", x.told(0, 0, 2, 3), -6);
        int[][] bad = {{-1, 0, 0, 0}, {4, 0, 0, 0}, {3, 0, 0, 0}, {0, 2, 0, 0}, {0, -1, 0, 2}, {0, 0, 3, 2}, {0, 0, -1, 2},
            {0, 0, 0, -1}, {0, 0, 0, 4}};
        for (int[] b : bad) {
            due("told BAD", x.told(b[0], b[1], b[2], b[3]), -2);
        }
    }

    private static void value() {
        GridMerger x = rowsOfBase(3);
        Check.write(x, 0, 0, 0, "-3");
        Check.write(x, 0, 1, 0, "10");
        String[] texts = {"=1-2-3", "=1-2*3", "=2*3+4*5", "=(1-2)*3", "=-a1*-2", "=--a1", "=a1+b1", "=2--3", "=a2-a1",
            "=999999*999999", "=-(2+3)*2", "=1-(2-3)"};
        int[] values = {-4, -5, 26, -3, -6, -3, -3, 5, 13, 999999 * 999999, -10, 2};
        for (int i = 0; i < texts.length; i++) {
            Check.write(x, 0, 2, 0, texts[i]);
            due("value " + texts[i], x.value(0, 2, 0), values[i]);
        }
        int[][] none = {{-1, 0, 0}, {4, 0, 0}, {1, 0, 0}, {0, 3, 0}, {0, -1, 0}, {0, 0, 3}, {0, 0, -1}};
        for (int[] b : none) {
            due("value of no CELL", x.value(b[0], b[1], b[2]), GridMerger.NO);
        }
    }

    private static void rangesAndWrongs() {
        GridMerger x = rowsOfBase(4);
        Check.write(x, 0, 0, 0, "-3");
        Check.write(x, 0, 1, 0, "10");
        Check.write(x, 0, 1, 1, "=a1*2");
        String[] texts = {"=total(a1:b3)", "=most(a1:b2)", "=least(a1:b2)", "=many(a1:b3)", "=total(b3:a1)", "=total(b1:a3)",
            "=most(a1:a1)", "=many(a1:c8)", "=most(a1:b1)", "=least(a2:b3)"};
        long[] values = {1, 10, -6, 3, 1, 1, -3, GridMerger.NO, 0, -6};
        for (int i = 0; i < texts.length; i++) {
            int written = Check.write(x, 0, 3, 0, texts[i]);
            due("value " + texts[i], written == 2 ? x.value(0, 3, 0) : GridMerger.NO, values[i]);
        }
        Check.write(x, 0, 3, 0, "=many(a1:c4)");
        due("many asks none, not itself either", x.value(0, 3, 0), 4);
        Check.write(x, 0, 3, 0, "=total(a1:c4)");
        due("RING of itself", x.told(0, 3, 0, 3), -6);
        Check.write(x, 0, 3, 1, "=a4+#");
        Check.write(x, 0, 3, 2, "=#+a4");
        due("RING is met first", x.told(0, 3, 1, 3), -6);
        due("LOST is met first", x.told(0, 3, 2, 3), -5);
        Check.write(x, 0, 3, 2, "=many(a4:#)");
        due("LOST of a RANGE", x.told(0, 3, 2, 3), -5);
        Check.write(x, 0, 3, 2, "=0*b4");
        due("WRONG by what is asked", x.told(0, 3, 2, 3), -6);
        x.move(0, 0, 3);
        Check.write(x, 0, 0, 2, "=total(a4:a1)");
        x.move(0, 3, 1);
        due("ROWS as they stand now", x.value(0, 0, 2), 7);
        for (int i = 0; i < 4; i++) {
            Check.write(x, 0, i, 0, i == 3 ? "1" : "=a" + (i + 2));
            Check.write(x, 0, i, 1, i == 3 ? "=a1" : "=b" + (i + 2));
            Check.write(x, 0, i, 2, i == 3 ? "=b1" : "=c" + (i + 2));
        }
        due("a long chain", x.value(0, 0, 2), 1);
        Check.write(x, 0, 3, 0, "=c1");
        due("a long RING", x.told(0, 2, 1, 3), -6);
        longestChain();
    }

    /** All 24 CELLS, each asking the next one amid a SUM. */
    private static void longestChain() {
        GridMerger x = rowsOfBase(8);
        for (int cell = 0; cell < 24; cell++) {
            String next = "abc".charAt((cell + 1) / 8 % 3) + "" + ((cell + 1) % 8 + 1);
            Check.write(x, 0, cell % 8, cell / 8, cell == 23 ? "7" : "=1+1*(1+1*(1+1*(1+1*(1+" + next + "))))");
        }
        due("the longest chain", x.value(0, 0, 0), 7 + 23 * 5);
        Check.write(x, 0, 7, 2, "=a1");
        due("the longest RING", x.told(0, 0, 0, 3), -6);
        Check.write(x, 0, 7, 2, "=#");
        due("LOST at its end", x.told(0, 0, 0, 3), -5);
    }

    private static void print() {
        GridMerger x = rowsOfBase(2);
        Check.write(x, 0, 0, 0, "=$a2+007");
        due("how long", x.print(0, 0, 0, -1), 6);
        due("byte 0", x.print(0, 0, 0, 0), '=');
        due("byte 1", x.print(0, 0, 0, 1), '$');
        due("byte 5", x.print(0, 0, 0, 5), '7');
        due("outside", x.print(0, 0, 0, 6), -12);
        due("outside", x.print(0, 0, 0, -2), -12);
        due("outside", x.print(0, 0, 0, Integer.MAX_VALUE), -12);
        due("EMPTY", x.print(0, 1, 0, -1), 0);
        due("outside of EMPTY", x.print(0, 1, 0, 0), -12);
        x.drop(0, 1);
        CHECK.text("LOST without $", Check.printed(x, 0, 0, 0), "=#+7");
        int[][] bad = {{-1, 0, 0}, {4, 0, 0}, {3, 0, 0}, {0, 1, 0}, {0, -1, 0}, {0, 0, 3}, {0, 0, -1}};
        for (int[] b : bad) {
            due("print BAD", x.print(b[0], b[1], b[2], -1), -2);
        }
    }
}
