/** Promises 13 to 19. */
public final class MergingTest {
    private static final Check CHECK = new Check("MergingTest");

    public static void main(String[] args) {
        rule();
        taken();
        contents();
        contentsByRules();
        addingRules();
        formulasAlike();
        notes();
        keysMerged();
        order();
        full();
        clash();
        clashesEnd();
        settle();
        take();
        undo();
        CHECK.finish();
    }

    private static void due(String call, long got, long want) {
        CHECK.due(call, got, want);
    }

    private static void rule() {
        GridMerger x = new GridMerger();
        due("rule", x.rule(1, 4, 99), 0);
        due("what it was", x.rule(1, 5, 7), 139);
        due("what it was", x.rule(1, 0, 0), 57);
        due("others stay", x.rule(0, 2, 3) + x.rule(2, 2, 3), 0);
        int[][] bad = {{-1, 0, 0}, {3, 0, 0}, {0, -1, 0}, {0, 6, 0}, {0, 0, -1}, {0, 0, 100}};
        for (int[] b : bad) {
            due("rule BAD", x.rule(b[0], b[1], b[2]), -2);
        }
        due("BAD changes nothing", x.rule(0, 0, 0), 23);
        due("no CHANGE", x.count(6), 0);
    }

    private static void taken() {
        GridMerger x = new GridMerger();
        boolean[][] isUnder = {{true, false, false, false, false, false}, {true, true, false, false, false, false},
            {true, false, true, false, false, false}, {true, false, true, true, false, false},
            {true, false, true, true, true, false}, {true, true, false, false, false, true}};
        for (int kind = 0; kind < 6; kind++) {
            x.rule(2, kind, 31 + kind);
            for (int k = 0; k < 6; k++) {
                due("taken of " + kind + " for " + k, x.taken(2, k), isUnder[kind][k] ? 31 + kind : -13);
            }
        }
        int[][] bad = {{-1, 0}, {3, 0}, {0, -1}, {0, 6}};
        for (int[] b : bad) {
            due("taken BAD", x.taken(b[0], b[1]), -2);
        }
    }

    /** One ROW of KEY 1 in all three, its CELL in column 0 of these CONTENTS. */
    private static GridMerger three(String base, String mine, String theirs) {
        GridMerger x = new GridMerger();
        String[] texts = {base, mine, theirs};
        for (int g = 0; g < 3; g++) {
            Check.rows(x, g, 1, 2);
            Check.write(x, g, 0, 0, texts[g]);
        }
        return x;
    }

    private static void merged(String name, GridMerger x, int clashes, String content) {
        due(name + ": merge", x.merge(), clashes);
        CHECK.text(name, Check.printed(x, 3, 0, 0), content);
    }

    private static void contents() {
        merged("none CHANGED", three("1", "1", "1"), 0, "1");
        merged("MINE is CHANGED", three("1", "2", "1"), 0, "2");
        merged("THEIRS is CHANGED", three("1", "1", "2"), 0, "2");
        merged("both alike", three("1", "2", "2"), 0, "2");
        merged("both CHANGED", three("1", "2", "3"), 1, "2");
        merged("MINE to EMPTY", three("1", "", "1"), 0, "");
        merged("THEIRS to EMPTY", three("1", "1", ""), 0, "");
        merged("MINE to EMPTY, THEIRS CHANGED", three("1", "", "2"), 1, "");
        merged("0 isn't EMPTY", three("", "0", "3"), 1, "0");
        merged("=1 isn't 1", three("1", "=1", "2"), 1, "=1");
        GridMerger x = new GridMerger();
        Check.rows(x, 1, 1);
        Check.rows(x, 2, 1);
        Check.write(x, 1, 0, 0, "1");
        merged("no BASE, MINE", x, 0, "1");
        Check.write(x, 2, 0, 0, "2");
        merged("no BASE, both", x, 1, "1");
        Check.write(x, 1, 0, 0, "");
        merged("no BASE, THEIRS", x, 0, "2");
    }

    private static void contentsByRules() {
        String[][] cases = {
            {"1", "2", "3"}, {"5", "4", "3"}, {"", "4", "3"}, {"=1", "4", "6"}, {"1", "=9", "3"}, {"1", "", "7"},
            {"8", "2", "=a1"}};
        String[][] want = {
            {"2", "3", "3", "4", "3", "1"}, {"4", "3", "4", "2", "2", "5"}, {"4", "3", "4", "7", "3", ""},
            {"4", "6", "6", "6", "6", "=1"}, {"=9", "3", "=9", "=9", "=9", "1"}, {"", "7", "", "", "", "1"},
            {"2", "=a1", "2", "2", "2", "8"}};
        for (int i = 0; i < cases.length; i++) {
            boolean adds = i < 3;
            for (int kind = 0; kind < 6; kind++) {
                GridMerger x = three(cases[i][0], cases[i][1], cases[i][2]);
                x.rule(0, kind, 3);
                boolean isAdded = adds && (kind == 3 || kind == 4);
                merged("case " + i + " by RULE " + kind, x, isAdded ? 0 : 1, want[i][kind]);
            }
        }
        for (int kind = 0; kind < 6; kind++) {
            GridMerger x = three("1", "5", "1");
            x.rule(0, kind, 0);
            merged("no RULE is asked, MINE", x, 0, "5");
            x = three("1", "1", "5");
            x.rule(0, kind, 0);
            merged("no RULE is asked, THEIRS", x, 0, "5");
            x = three("1", "5", "5");
            x.rule(0, kind, 0);
            merged("no RULE is asked, both", x, 0, "5");
        }
    }

    private static void addingRules() {
        GridMerger x = three("", "5", "6");
        x.rule(0, 4, 11);
        merged("at FIGURE", x, 0, "11");
        x.rule(0, 4, 10);
        merged("above FIGURE", x, 0, "10");
        x.rule(0, 4, 99);
        merged("below FIGURE", x, 0, "11");
        x = three("=1", "50", "60");
        x.rule(0, 4, 10);
        merged("what doesn't add isn't capped", x, 1, "60");
        x = three("999999", "-999999", "-999998");
        x.rule(0, 3, 0);
        merged("far below", x, 0, "-2999996");
        x.rule(1, 3, 0);
        due("of its column", x.rule(0, 0, 0), 30);
        merged("of its column", x, 1, "-999999");
    }

    private static void formulasAlike() {
        merged("NUMBERS by what they are", three("=007", "= 7", "1"), 0, "1");
        merged("staying or not", three("=a1", "=$a1", "1"), 1, "=$a1");
        merged("unlike columns", three("=a1", "=b1", "1"), 1, "=b1");
        merged("unlike KEYS", three("=a1", "=a2", "1"), 1, "=a2");
        merged("unlike TOKENS", three("=1+2", "=1+2+3", "1"), 1, "=1+2+3");
        merged("unlike SIGNS", three("=1+2", "=1-2", "1"), 1, "=1-2");
        merged("to no KEY", three("=#", "=#", "1"), 0, "1");
        merged("a lost KEY isn't none", lostInMine(), 1, "=#");
        GridMerger x = three("=a2", "=a2", "1");
        x.move(1, 0, 1);
        due("the same KEY elsewhere", x.merge(), 0);
        due("THEIRS then", x.value(3, 1, 0), 1);
        x = three("=#", "", "1");
        Check.write(x, 1, 1, 2, "=c1");
        x.move(1, 1, 0);
        Check.write(x, 1, 0, 0, "=b2");
        x.move(1, 0, 1);
        x.fill(1, 0, 0, 1);
        merged("REFS to no KEY by fill", filledToNoKey(), 0, "1");
    }

    private static GridMerger lostInMine() {
        GridMerger x = three("=#", "=a2", "1");
        x.drop(1, 1);
        return x;
    }

    /** BASE's CELL is #, MINE's a REF of another column that a FILLED CELL lost. */
    private static GridMerger filledToNoKey() {
        GridMerger x = new GridMerger();
        Check.rows(x, 0, 1);
        Check.rows(x, 2, 1);
        Check.write(x, 0, 0, 0, "=#");
        Check.write(x, 2, 0, 0, "1");
        Check.rows(x, 1, 9, 1);
        Check.write(x, 1, 0, 0, "=c2");
        x.fill(1, 0, 0, 1);
        x.drop(1, 0);
        return x;
    }

    private static void notes() {
        int[][] cases = {{0, 0, 0, 0, 0}, {0, 5, 0, 5, 0}, {0, 0, 5, 5, 0}, {0, 5, 5, 5, 0}, {0, 5, 6, 6, 1},
            {0, 6, 5, 6, 1}, {9, 0, 3, 3, 1}, {9, 0, 9, 0, 0}, {9, 9, 0, 0, 0}};
        for (int[] c : cases) {
            GridMerger x = three("", "", "");
            for (int g = 0; g < 3; g++) {
                x.note(g, 0, 1, c[g]);
            }
            due("notes: merge", x.merge(), c[4]);
            due("notes", x.told(3, 0, 1, 1), c[3]);
            if (c[4] == 1) {
                due("which", x.clash(0, 0), 3);
                due("column", x.clash(0, 2), 1);
            }
        }
        GridMerger x = new GridMerger();
        Check.rows(x, 1, 1);
        Check.rows(x, 2, 1);
        x.note(1, 0, 0, 0);
        x.note(2, 0, 0, 4);
        due("no BASE counts as 0", x.merge(), 0);
        due("THEIRS", x.told(3, 0, 0, 1), 4);
    }

    private static void keysMerged() {
        GridMerger x = new GridMerger();
        Check.rows(x, 0, 1, 2, 3, 4, 5, 6);
        Check.rows(x, 1, 1, 2, 3, 7);
        Check.rows(x, 2, 1, 4, 5, 8);
        x.note(1, 1, 2, 1);
        Check.write(x, 2, 1, 2, "=a1");
        due("merge", x.merge(), 2);
        CHECK.text("KEYS", Check.keys(x, 3), "1 4 8 2 7");
        due("KEY 2", x.clash(0, 1), 2);
        due("KEY 4", x.clash(1, 1), 4);
        due("a CLASH 2", x.clash(1, 0), 2);
        due("NONE", x.clash(1, 2), -1);
        due("who has it tells it", x.told(3, 1, 2, 0), 2);
        due("who has it tells it", x.told(3, 3, 2, 1), 1);
        due("rule doesn't matter", x.rule(2, 1, 0), 0);
        due("merge", x.merge(), 2);
        due("who has it tells it", x.told(3, 1, 2, 0), 2);
    }

    private static void order() {
        GridMerger x = new GridMerger();
        Check.rows(x, 1, 5, 3, 1);
        Check.rows(x, 2, 9, 8, 1, 7, 5, 6, 4);
        due("merge", x.merge(), 0);
        CHECK.text("order", Check.keys(x, 3), "9 8 5 6 4 3 1 7");
        x = new GridMerger();
        Check.rows(x, 0, 2, 4);
        Check.rows(x, 1, 1, 3);
        Check.rows(x, 2, 2, 1, 4, 9);
        due("merge", x.merge(), 0);
        CHECK.text("those not in MERGED are no neighbours", Check.keys(x, 3), "1 9 3");
        x = new GridMerger();
        Check.rows(x, 0, 2);
        Check.rows(x, 1, 1);
        Check.rows(x, 2, 2, 7);
        due("merge", x.merge(), 0);
        CHECK.text("ahead of all, if none ahead of it is in MERGED", Check.keys(x, 3), "7 1");
    }

    private static void full() {
        GridMerger x = new GridMerger();
        Check.rows(x, 1, 1, 2, 3, 4, 5);
        Check.rows(x, 2, 6, 7, 8);
        due("8 have room", x.merge(), 0);
        due("8", x.count(3), 8);
        x.row(2, 0, 9);
        due("9 haven't", x.merge(), -4);
        due("MERGED stays", x.count(3), 8);
        due("take", x.take(), -3);
        Check.rows(x, 0, 9);
        due("one that was dropped", x.merge(), 0);
        x.rule(0, 1, 1);
        due("take after merge", x.take(), 8);
    }

    private static GridMerger clashing() {
        GridMerger x = new GridMerger();
        Check.rows(x, 0, 20, 10, 5);
        Check.rows(x, 1, 20, 10, 30);
        Check.rows(x, 2, 10, 20, 5, 30);
        x.note(2, 2, 0, 1);
        for (int g = 1; g <= 2; g++) {
            Check.write(x, g, 0, 2, "1" + g);
            Check.write(x, g, 1, 2, "2" + g);
            Check.write(x, g, g == 1 ? 2 : 3, 1, "=" + g);
            x.note(g, 0, 2, g);
            x.note(g, 1, 2, 4 + g);
            x.note(g, g == 1 ? 0 : 1, 0, 7 + g);
        }
        return x;
    }

    private static void clash() {
        GridMerger x = clashing();
        int[][] want = {{2, 5, -1}, {1, 10, 2}, {3, 10, 2}, {3, 20, 0}, {1, 20, 2}, {3, 20, 2}, {1, 30, 1}};
        due("merge", x.merge(), want.length);
        due("count", x.count(4), want.length);
        for (int i = 0; i < want.length; i++) {
            for (int what = 0; what < 3; what++) {
                due("clash(" + i + ", " + what + ")", x.clash(i, what), want[i][what]);
            }
            due("not SETTLED", x.clash(i, 3), 0);
        }
        due("outside", x.clash(want.length, 0), -12);
        due("outside", x.clash(-1, 0), -12);
        due("BAD", x.clash(0, -1), -2);
        due("BAD", x.clash(0, 4), -2);
        due("BAD ahead of outside", x.clash(-1, 4), -2);
        due("settle", x.settle(2, 0), 6);
        due("SETTLED", x.clash(2, 3), 1);
        mostClashes();
    }

    private static void mostClashes() {
        GridMerger x = new GridMerger();
        for (int g = 1; g <= 2; g++) {
            Check.rows(x, g, 99, 2, 3, 4, 5, 6, 7, 1);
            for (int cell = 0; cell < 24; cell++) {
                Check.write(x, g, cell / 3, cell % 3, "" + g);
                x.note(g, cell / 3, cell % 3, g);
            }
        }
        due("merge", x.merge(), 48);
        due("the least KEY", x.clash(0, 1), 1);
        due("the greatest KEY", x.clash(47, 1), 99);
        due("its column", x.clash(47, 2), 2);
        due("which", x.clash(47, 0), 3);
        due("all would be otherwise", x.exchanged(), 24);
        for (int i = 0; i < 48; i++) {
            due("settle", x.settle(i, i % 2), 47 - i);
        }
        due("take", x.take(), 8);
        due("CONTENT of MINE", x.value(2, 0, 2), 1);
        due("NOTE of THEIRS", x.told(1, 0, 2, 1), 2);
    }

    private static void clashesEnd() {
        for (int i = 0; i < 8; i++) {
            GridMerger x = clashing();
            x.merge();
            int rows = x.count(3);
            change(x, i);
            due("CLASHES after CHANGE " + i, x.count(4), i == 7 ? 7 : 0);
            due("not SETTLED", x.count(5), i == 7 ? 7 : 0);
            due("clash", x.clash(0, 0), i == 7 ? 2 : -12);
            due("MERGED stays", x.count(3), rows);
            due("take", x.take(), -3);
        }
        GridMerger x = clashing();
        x.merge();
        x.write(3, 0, 0);
        x.row(0, 0, 10);
        x.drop(0, 9);
        x.move(0, 0, 9);
        x.note(0, 0, 0, 100);
        x.fill(0, 0, 0, 0);
        x.like(0, 0);
        x.rule(0, 1, 1);
        Check.write(x, 0, 0, 0, "x");
        due("refused ones change nothing", x.count(4), 7);
    }

    private static void change(GridMerger x, int which) {
        switch (which) {
            case 0:
                x.write(0, 0, 0);
                break;
            case 1:
                x.row(1, 0, 77);
                break;
            case 2:
                x.drop(2, 0);
                break;
            case 3:
                x.move(0, 0, 0);
                break;
            case 4:
                x.note(1, 0, 0, 0);
                break;
            case 5:
                x.fill(2, 0, 0, 1);
                break;
            case 6:
                x.undo();
                break;
            default:
                x.merge();
                break;
        }
    }

    private static void settle() {
        for (int by = 0; by < 3; by++) {
            GridMerger x = clashing();
            Check.write(x, 0, 0, 2, "9");
            x.note(0, 1, 2, 9);
            x.merge();
            due("settle content", x.settle(4, by), 6);
            due("settle note", x.settle(2, by), 5);
            due("settle content without BASE", x.settle(6, by), 4);
            int twenty = Check.keys(x, 3).startsWith("20") ? 0 : 1;
            due("content", x.value(3, twenty, 2), by == 0 ? 11 : by == 1 ? 22 : 9);
            int ten = placeOf(x, 10);
            due("note", x.told(3, ten, 2, 1), by == 0 ? 5 : by == 1 ? 2 : 9);
            due("content of the note's CELL stays", x.value(3, ten, 2), 21);
            CHECK.text("without BASE", Check.printed(x, 3, placeOf(x, 30), 1), by == 0 ? "=1" : by == 1 ? "=2" : "");
            due("VALUE without BASE", x.value(3, placeOf(x, 30), 1), by == 0 ? 1 : by == 1 ? 2 : 0);
            due("it is", x.settle(4, by), -3);
            due("outside", x.settle(7, by), -12);
            due("outside", x.settle(-1, by), -12);
            due("not SETTLED", x.count(5), 4);
            due("all CLASHES", x.count(4), 7);
            due("settle the ROW", x.settle(0, by), 3);
            due("ROWS", x.count(3), by == 0 ? 3 : 4);
            due("as there", placeOf(x, 5) == -1 ? -1 : x.told(3, placeOf(x, 5), 0, 1), by == 0 ? -1 : by == 1 ? 1 : 0);
        }
        GridMerger x = clashing();
        x.merge();
        due("BAD", x.settle(0, 3), -2);
        due("BAD", x.settle(0, -1), -2);
        due("BAD ahead of outside", x.settle(9, 3), -2);
        x = new GridMerger();
        Check.rows(x, 1, 1);
        Check.rows(x, 2, 1);
        x.note(1, 0, 0, 3);
        x.note(2, 0, 0, 4);
        x.merge();
        x.settle(0, 2);
        due("NOTE without BASE", x.told(3, 0, 0, 1), 0);
    }

    private static int placeOf(GridMerger x, int key) {
        for (int i = 0; i < x.count(3); i++) {
            if (x.told(3, i, 0, 2) == key) {
                return i;
            }
        }
        return -1;
    }

    private static void take() {
        GridMerger x = clashing();
        due("no merge()", x.take(), -3);
        x.merge();
        for (int i = 0; i < 7; i++) {
            due("a CLASH isn't SETTLED", x.take(), -3);
            x.settle(i, 1);
        }
        int changes = x.count(6);
        due("changes", changes, 6);
        due("take", x.take(), 4);
        for (int g = 0; g < 3; g++) {
            CHECK.text("GRID " + g, Check.keys(x, g), Check.keys(x, 3));
            due("CONTENT", x.value(g, placeOf(x, 20), 2), 22);
        }
        due("CLASHES", x.count(4), 0);
        due("take is a CHANGE", x.take(), -3);
        due("take UNDONE", x.undo(), 5);
        CHECK.text("as ahead of it", Check.keys(x, 1), "20 10 30");
        due("UNDONE since", x.take(), -3);
        x.merge();
        due("CLASHES again", x.count(5), 7);
        x = new GridMerger();
        x.merge();
        x.rule(0, 3, 3);
        x.merge();
        due("take of nothing", x.take(), 0);
        x.merge();
        Check.write(x, 0, 0, 0, "x");
        due("a refused call is no CHANGE", x.take(), 0);
    }

    private static void undo() {
        GridMerger x = new GridMerger();
        due("none", x.undo(), -3);
        Check.rows(x, 0, 1, 2, 3, 4);
        due("4", x.count(6), 4);
        due("undo", x.undo(), 3);
        CHECK.text("as ahead of it", Check.keys(x, 0), "1 2 3");
        Check.write(x, 0, 0, 0, "5");
        Check.write(x, 0, 0, 0, "=#");
        due("undo write", x.undo(), 4);
        due("NUMBER again", x.value(0, 0, 0), 5);
        x.note(0, 1, 1, 9);
        x.fill(0, 0, 0, 2);
        x.like(1, 0);
        due("the latest 6", x.count(6), 6);
        x.move(1, 0, 2);
        due("6 yet", x.count(6), 6);
        x.drop(1, 0);
        due("undo drop", x.undo(), 5);
        CHECK.text("dropped one is there", Check.keys(x, 1), "2 3 1");
        due("undo move", x.undo(), 4);
        due("undo like", x.undo(), 3);
        due("none in MINE", x.count(1), 0);
        due("filled", x.value(0, 2, 0), 5);
        due("undo fill", x.undo(), 2);
        due("not filled", x.told(0, 2, 0, 0), 0);
        due("undo note", x.undo(), 1);
        due("no NOTE", x.told(0, 1, 1, 1), 0);
        due("undo write", x.undo(), 0);
        due("EMPTY", x.told(0, 0, 0, 0), 0);
        due("older ones can't be", x.undo(), -3);
        CHECK.text("ROWS stay", Check.keys(x, 0), "1 2 3");
        Check.feed(x, "12");
        x.note(0, 0, 0, 1);
        x.rule(0, 2, 2);
        x.undo();
        due("THE TAPE stays", x.count(7), 2);
        due("RULES stay", x.rule(0, 0, 0), 22);
    }
}
