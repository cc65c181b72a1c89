/** Promises 13 to 16 at their edges, and what the Terms say of merging: which KEYS, CONTENTS, NOTES, ROWS, CLASHES. */
public final class MergeEdgesTest {
    private static final Edges EDGES = new Edges("MergeEdgesTest");
    private static final int MIN = Integer.MIN_VALUE;
    private static final int MAX = Integer.MAX_VALUE;
    private static final int OWN = 0;
    private static final int OTHER = 1;
    private static final int GREATER = 2;
    private static final int ADDING = 3;
    private static final int CAPPED = 4;
    private static final int BACK = 5;

    public static void main(String[] args) {
        rule();
        taken();
        alike();
        keysMerged();
        contents();
        ownAndOther();
        greater();
        adding();
        capped();
        back();
        notes();
        order();
        clashes();
        clash();
        full();
        merge();
        EDGES.finish(13, 14, 15, 16);
    }

    private static void edge(int promise, String sentence, Runnable body) {
        EDGES.edge(promise, sentence, body);
    }

    private static void rule() {
        edge(13, "KIND (0 .. 5), FIGURE (0 .. 99), columns 0 .. 2", () -> {
            for (int column = 0; column <= 2; column++) {
                for (int kind = 0; kind <= 5; kind++) {
                    Play x = new Play();
                    x.rule(column, kind, 99).is(0);
                    x.rule(column, kind, 0).is(10 * kind + 99);
                    x.rule(column, 0, 1).is(10 * kind);
                    x.rule(column, 0, 0).is(1);
                }
            }
        });
        edge(13, "BAD", () -> Probe.refused(Edges::busy, -2, x -> x.rule(-1, 0, 0), x -> x.rule(3, 0, 0),
                x -> x.rule(0, -1, 0), x -> x.rule(0, 6, 0), x -> x.rule(0, 0, -1), x -> x.rule(0, 0, 100),
                x -> x.rule(MIN, 0, 0), x -> x.rule(MAX, 0, 0), x -> x.rule(0, MIN, 0), x -> x.rule(0, MAX, 0),
                x -> x.rule(0, 0, MIN), x -> x.rule(0, 0, MAX)));
        edge(13, "of its column alone; no CHANGE: CLASHES and MERGED stay", () -> {
            Probe.stays(Edges::busy, x -> x.rule(0, 5, 9).is(27), Probe.COUNTS, Probe.CELLS, Probe.CLASHES, Probe.TAKING,
                    Probe.UNDOING, Probe.IMAGE, Probe.TAPE, Probe.SHEETS);
            Play x = Play.of(Edges::busy);
            x.rule(0, 5, 9);
            x.rule(1, 0, 0).is(90);
            x.rule(2, 0, 0).is(53);
        });
    }

    private static void taken() {
        edge(14, "one of KIND k, or one under that: its FIGURE; else -13", () -> {
            String[] taken = {"0", "01", "02", "023", "0234", "015"};
            for (int column = 0; column <= 2; column++) {
                for (int kind = 0; kind <= 5; kind++) {
                    for (int k = 0; k <= 5; k++) {
                        Play x = new Play();
                        x.rule(column, kind, 60 + kind);
                        boolean isSo = taken[kind].indexOf('0' + k) >= 0;
                        x.taken(column, k).is(isSo ? 60 + kind : -13);
                        x.taken((column + 1) % 3, k).is(k == 0 ? 0 : -13);
                    }
                }
            }
        });
        edge(14, "FIGURE 0 and 99", () -> {
            Play x = new Play();
            x.rule(0, 4, 99);
            x.rule(1, 4, 0);
            x.taken(0, 3).is(99);
            x.taken(1, 3).is(0);
        });
        edge(14, "BAD; -13; both leave all as it was", () -> {
            Probe.refused(Edges::busy, -2, x -> x.taken(-1, 0), x -> x.taken(3, 0), x -> x.taken(0, -1),
                    x -> x.taken(0, 6), x -> x.taken(MIN, 0), x -> x.taken(MAX, 0), x -> x.taken(0, MIN),
                    x -> x.taken(0, MAX));
            Probe.refused(Edges::busy, -13, x -> x.taken(0, 3), x -> x.taken(1, 5), x -> x.taken(2, 2));
        });
    }

    /** KEYS 1 and 2 are in all three; of KEY 1, the CELL in a column is so. */
    private static Play three(int column, String base, String mine, String theirs) {
        Play x = new Play();
        String[] texts = {base, mine, theirs};
        for (int g = 0; g < 3; g++) {
            x.rows(g, 1, 2);
            x.write(g, 0, column, texts[g]);
        }
        return x;
    }

    private static void merges(Play x, int column, int clashes, String due) {
        x.merge().is(clashes);
        x.prints(3, 0, column, due);
        if (clashes == 1) {
            x.clashIs(0, 1, 1, column);
        }
    }

    /** ALIKE is what isn't CHANGED: then it is THEIRS' that is taken, and there is no CLASH. */
    private static void alike(boolean isSo, String base, String mine) {
        for (int column = 0; column < 3; column++) {
            Play x = three(column, base, mine, "=99");
            x.merge().is(isSo ? 0 : 1);
            x = three(column, base, "=99", mine);
            x.merge().is(isSo ? 0 : 1);
            x = three(column, "=99", base, mine);
            x.merge().is(isSo ? 0 : 1);
        }
    }

    private static void alike() {
        edge(15, "ALIKE: both EMPTY; the same NUMBER", () -> {
            alike(true, "", " \n");
            alike(true, "0", "-0");
            alike(true, "7", "007");
            alike(false, "", "0");
            alike(false, "7", "-7");
            alike(false, "7", "8");
            alike(false, "7", "=7");
            alike(false, "", "=0");
        });
        edge(15, "ALIKE: FORMULAS of the same TOKENS (NUMBERS by what they are)", () -> {
            alike(true, "=7", "=007");
            alike(true, "=1+2*(3-a1)", " = 1 + 2 * ( 3 - a 01 )");
            alike(true, "=total(a1:b2)", "=total( a1 : b2 )");
            alike(false, "=1+2", "=2+1");
            alike(false, "=1+2", "=1-2");
            alike(false, "=1+2", "=1+2+0");
            alike(false, "=1+2+0", "=1+2");
            alike(false, "=1", "=(1)");
            alike(false, "=1", "=2");
            alike(false, "=-1", "=--1");
            alike(false, "=total(a1:a2)", "=most(a1:a2)");
            alike(false, "=total(a1:a2)", "=total(a2:a1)");
        });
        edge(15, "ALIKE: each REF being of the same KEY (or none), column, and STAYING or not", () -> {
            alike(true, "=a1", "=a1");
            alike(true, "=$a1", "=$a1");
            alike(true, "=#", "=#");
            alike(false, "=a1", "=a2");
            alike(false, "=a1", "=b1");
            alike(false, "=b1", "=c1");
            alike(false, "=$a1", "=$c1");
            alike(false, "=a1", "=$a1");
            alike(false, "=$a1", "=$a2");
            alike(false, "=#", "=a1");
            alike(false, "=#", "=0");
        });
        edge(15, "ALIKE: by KEY, wherever its ROW stands, and if it is LOST, too", () -> {
            Play x = three(0, "=b2", "=b2", "9");
            x.move(1, 0, 1);
            x.merge().is(0);
            x.prints(3, 1, 0, "9");
            x = three(0, "=b2", "=b2", "9");
            x.drop(1, 1);
            x.merge().is(0);
            x = three(0, "=#", "=b2", "9");
            x.drop(1, 1);
            x.merge().is(1);
        });
        edge(15, "REFS to no KEY: all such are ALIKE, of whatever column they were", () -> {
            Play x = new Play().rows(0, 5, 1).rows(1, 5, 1).rows(2, 1);
            x.write(0, 0, 0, "=c2");
            x.fill(0, 0, 0, 1).is(1);
            x.write(1, 0, 0, "=a2");
            x.fill(1, 0, 0, 1).is(1);
            x.write(2, 0, 0, "9");
            x.drop(0, 0);
            x.drop(1, 0);
            x.prints(0, 0, 0, "=#").prints(1, 0, 0, "=#");
            x.merge().is(0);
            x.prints(3, 0, 0, "9");
            x.write(0, 0, 0, "=#");
            x.merge().is(0);
        });
    }

    /** KEY 5 is in these GRIDS; what comes of it. */
    private static void key(boolean isInBase, int holder, int clashes, String due) {
        Play x = new Play();
        if (isInBase) {
            x.rows(0, 5);
        }
        x.rows(holder, 5);
        x.merge().is(clashes);
        x.keysAre(3, due);
    }

    private static void keysMerged() {
        edge(15, "a KEY is in MERGED, if it is in MINE and THEIRS", () -> {
            Play x = new Play().rows(1, 5).rows(2, 5);
            x.merge().is(0);
            x.keysAre(3, "5");
            x.rows(0, 5).merge().is(0);
            x.keysAre(3, "5");
        });
        edge(15, "or in one of them and not in BASE", () -> {
            key(false, 1, 0, "5");
            key(false, 2, 0, "5");
        });
        edge(15, "not, if it is in one of them and in BASE, and not CHANGED; nor in BASE alone, nor in none", () -> {
            key(true, 1, 0, "");
            key(true, 2, 0, "");
            new Play().rows(0, 5).merge().is(0).count(3).is(0);
            new Play().merge().is(0).count(3).is(0);
        });
        edge(15, "or in one of them, in BASE, and CHANGED (a CELL or a NOTE of it): that is a CLASH 2", () -> {
            for (int holder = 1; holder <= 2; holder++) {
                for (int column = 0; column < 3; column++) {
                    Play x = new Play().rows(0, 5).rows(holder, 5);
                    x.write(holder, 0, column, "0");
                    x.merge().is(1);
                    x.keysAre(3, "5").clashIs(0, 2, 5, -1).prints(3, 0, column, "0");
                    x = new Play().rows(0, 5).rows(holder, 5);
                    x.note(holder, 0, column, 1);
                    x.merge().is(1);
                    x.keysAre(3, "5").clashIs(0, 2, 5, -1).told(3, 0, column, 1).is(1);
                }
            }
        });
        edge(15, "CHANGED: against BASE's of that KEY, wherever it stands", () -> {
            Play x = new Play().rows(0, 4, 5).rows(1, 5);
            x.write(0, 1, 1, "7");
            x.write(1, 0, 1, "7");
            x.merge().is(0);
            x.count(3).is(0);
        });
        edge(15, "who has it alone tells that ROW, whatever the RULES", () -> {
            for (int holder = 1; holder <= 2; holder++) {
                for (int kind = OWN; kind <= BACK; kind++) {
                    Play x = new Play().rows(0, 5).rows(holder, 5);
                    x.write(0, 0, 0, "1");
                    x.write(holder, 0, 0, "2");
                    x.note(holder, 0, 2, 3);
                    x.rule(0, kind, 0);
                    x.merge().is(1);
                    x.valueIs(3, 0, 0, 2).told(3, 0, 2, 1).is(3);
                }
            }
        });
    }

    private static void contents() {
        edge(15, "if ALIKE, or THEIRS isn't CHANGED: MINE's; if MINE isn't CHANGED: THEIRS'; by no RULE", () -> {
            for (int column = 0; column < 3; column++) {
                for (int kind = OWN; kind <= BACK; kind++) {
                    String[][] cases = {{"1", "1", "1", "1"}, {"1", "2", "2", "2"}, {"1", "", "", ""}, {"1", "2", "1", "2"},
                        {"1", "", "1", ""}, {"1", "=#", "1", "=#"}, {"1", "1", "2", "2"}, {"1", "1", "", ""},
                        {"", "5", "", "5"}, {"", "", "5", "5"}, {"=1", "=1", "9", "9"}, {"9", "0", "9", "0"},
                        {"50", "90", "90", "90"}};
                    for (String[] c : cases) {
                        Play x = three(column, c[0], c[1], c[2]);
                        x.rule(column, kind, 0);
                        merges(x, column, 0, c[3]);
                    }
                }
            }
        });
        edge(15, "with no ROW of that KEY in BASE that counts as EMPTY", () -> {
            Play x = three(0, "", "", "4");
            x.drop(0, 0);
            merges(x, 0, 0, "4");
            x = three(0, "", "4", "");
            x.drop(0, 0);
            merges(x, 0, 0, "4");
            x = three(0, "", "4", "0");
            x.drop(0, 0);
            merges(x, 0, 1, "4");
        });
    }

    /** Both are CHANGED to unlike ones: what a RULE makes of it in each column, the others being OWN. */
    private static void makes(int kind, int figure, int clashes, String... texts) {
        for (int column = 0; column < 3; column++) {
            Play x = three(column, texts[0], texts[1], texts[2]);
            x.rule(column, kind, figure);
            merges(x, column, clashes, texts[3]);
            if (texts[0].isEmpty()) {
                x.drop(0, 0);
                merges(x, column, clashes, texts[3]);
            }
        }
    }

    private static void ownAndOther() {
        edge(15, "0 OWN: MINE's; that is a CLASH 1", () -> {
            makes(OWN, 9, 1, "1", "2", "3", "2");
            makes(OWN, 9, 1, "1", "", "3", "");
            makes(OWN, 9, 1, "", "=#", "3", "=#");
        });
        edge(15, "1 OTHER: THEIRS'; that is a CLASH 1", () -> {
            makes(OTHER, 9, 1, "1", "3", "2", "2");
            makes(OTHER, 9, 1, "1", "3", "", "");
            makes(OTHER, 9, 1, "", "3", "=#", "=#");
        });
    }

    private static void greater() {
        edge(15, "2 GREATER: if both are NUMBERS the greater; that is a CLASH 1", () -> {
            makes(GREATER, 0, 1, "1", "2", "3", "3");
            makes(GREATER, 0, 1, "1", "3", "2", "3");
            makes(GREATER, 0, 1, "9", "-3", "-2", "-2");
            makes(GREATER, 0, 1, "9", "-2", "-3", "-2");
            makes(GREATER, 0, 1, "", "-1", "0", "0");
            makes(GREATER, 0, 1, "=1", "999999", "-999999", "999999");
        });
        edge(15, "2 GREATER: else an OWN one's", () -> {
            makes(GREATER, 0, 1, "1", "2", "=3", "2");
            makes(GREATER, 0, 1, "1", "=2", "3", "=2");
            makes(GREATER, 0, 1, "1", "-2", "", "-2");
            makes(GREATER, 0, 1, "1", "", "2", "");
            makes(GREATER, 0, 1, "", "=2", "=3", "=2");
        });
    }

    private static void adding() {
        edge(15, "3 ADDING: both are NUMBERS and BASE's is a NUMBER or EMPTY: MINE and THEIRS less BASE's (0); no CLASH", () -> {
            makes(ADDING, 0, 0, "1", "2", "3", "4");
            makes(ADDING, 0, 0, "0", "2", "3", "5");
            makes(ADDING, 0, 0, "", "2", "3", "5");
            makes(ADDING, 0, 0, "9", "-2", "0", "-11");
            makes(ADDING, 0, 0, "-999999", "999999", "999998", "2999996");
        });
        edge(15, "3 ADDING: else a GREATER one's; that is a CLASH 1", () -> {
            makes(ADDING, 0, 1, "=1", "2", "3", "3");
            makes(ADDING, 0, 1, "=#", "3", "2", "3");
            makes(ADDING, 0, 1, "1", "=2", "3", "=2");
            makes(ADDING, 0, 1, "1", "2", "=3", "2");
            makes(ADDING, 0, 1, "1", "", "3", "");
            makes(ADDING, 0, 1, "1", "3", "", "3");
        });
    }

    private static void capped() {
        edge(15, "4 CAPPED: as ADDING, but the sum is FIGURE at most; no CLASH", () -> {
            makes(CAPPED, 50, 0, "1", "2", "48", "49");
            makes(CAPPED, 50, 0, "1", "2", "49", "50");
            makes(CAPPED, 50, 0, "1", "2", "50", "50");
            makes(CAPPED, 99, 0, "", "50", "49", "99");
            makes(CAPPED, 99, 0, "", "50", "51", "99");
            makes(CAPPED, 0, 0, "", "2", "-2", "0");
            makes(CAPPED, 0, 0, "", "2", "-1", "0");
            makes(CAPPED, 0, 0, "", "2", "-3", "-1");
        });
        edge(15, "4 CAPPED: what doesn't add is as by ADDING", () -> {
            makes(CAPPED, 0, 1, "=1", "2", "3", "3");
            makes(CAPPED, 0, 1, "1", "2", "=3", "2");
            makes(CAPPED, 0, 1, "1", "=2", "3", "=2");
            makes(CAPPED, 0, 1, "1", "3", "", "3");
        });
    }

    private static void back() {
        edge(15, "5 BACK: BASE's; that is a CLASH 1", () -> {
            makes(BACK, 0, 1, "1", "2", "3", "1");
            makes(BACK, 0, 1, "=a1", "2", "3", "=a1");
            makes(BACK, 0, 1, "", "2", "3", "");
            makes(BACK, 0, 1, "", "=2", "3", "");
        });
    }

    private static void noteIs(int base, int mine, int theirs, int due, int clashes) {
        for (int column = 0; column < 3; column++) {
            Play x = three(column, "", "", "");
            x.note(0, 0, column, base);
            x.note(1, 0, column, mine);
            x.note(2, 0, column, theirs);
            x.rule(column, BACK, 0);
            x.merge().is(clashes);
            x.told(3, 0, column, 1).is(due);
            if (clashes == 1) {
                x.clashIs(0, 3, 1, column);
            }
        }
    }

    private static void notes() {
        edge(15, "NOTE: likewise", () -> {
            noteIs(0, 0, 0, 0, 0);
            noteIs(4, 4, 4, 4, 0);
            noteIs(4, 0, 4, 0, 0);
            noteIs(4, 4, 0, 0, 0);
            noteIs(4, 99, 99, 99, 0);
            noteIs(0, 1, 0, 1, 0);
            noteIs(0, 0, 1, 1, 0);
        });
        edge(15, "NOTE: if both are CHANGED to unlike ones: the greater; that is a CLASH 3", () -> {
            noteIs(0, 1, 99, 99, 1);
            noteIs(0, 99, 1, 99, 1);
            noteIs(9, 0, 1, 1, 1);
            noteIs(9, 1, 0, 1, 1);
        });
        edge(15, "NOTE: with no ROW of that KEY in BASE that counts as 0", () -> {
            Play x = new Play().rows(1, 1).rows(2, 1);
            x.note(1, 0, 0, 5);
            x.note(2, 0, 1, 6);
            x.note(1, 0, 2, 7);
            x.note(2, 0, 2, 8);
            x.merge().is(1);
            x.clashIs(0, 3, 1, 2);
            x.told(3, 0, 0, 1).is(5);
            x.told(3, 0, 1, 1).is(6);
            x.told(3, 0, 2, 1).is(8);
        });
    }

    private static void order(int[] base, int[] mine, int[] theirs, String due) {
        Play x = new Play().rows(0, base).rows(1, mine).rows(2, theirs);
        x.merge().is(0);
        x.keysAre(3, due);
    }

    private static int[] keys(int... keys) {
        return keys;
    }

    private static void order() {
        edge(15, "ROWS of MERGED stand as in MINE", () -> order(keys(), keys(9, 1, 5), keys(1, 5, 9), "9 1 5"));
        edge(15, "those in THEIRS alone: each right behind the nearest one ahead of it in THEIRS that is in MERGED", () -> {
            order(keys(), keys(1, 2), keys(1, 7, 2), "1 7 2");
            order(keys(), keys(1, 2), keys(2, 7, 1), "1 2 7");
            order(keys(), keys(2, 1), keys(2, 7, 1, 8), "2 7 1 8");
            order(keys(), keys(1, 2, 3), keys(3, 7, 1, 8, 9), "1 8 9 2 3 7");
        });
        edge(15, "ahead of all: none is", () -> {
            order(keys(), keys(1, 2), keys(7, 1, 2), "7 1 2");
            order(keys(), keys(1, 2), keys(7), "7 1 2");
            order(keys(), keys(), keys(7, 6, 8), "7 6 8");
            order(keys(), keys(1), keys(8, 7), "8 7 1");
        });
        edge(15, "one that isn't in MERGED is none to stand behind", () -> {
            order(keys(5), keys(1, 2), keys(1, 5, 7, 2), "1 7 2");
            order(keys(5), keys(1, 2), keys(5, 7), "7 1 2");
            order(keys(3, 4), keys(1, 3, 2), keys(2, 4, 7), "1 2 7");
        });
        edge(15, "of 8 ROWS all in THEIRS alone, or in MINE alone", () -> {
            int[] eight = keys(8, 1, 7, 2, 6, 3, 5, 4);
            order(keys(), eight, keys(), "8 1 7 2 6 3 5 4");
            order(keys(), keys(), eight, "8 1 7 2 6 3 5 4");
            order(eight, eight, eight, "8 1 7 2 6 3 5 4");
        });
    }

    private static void clashes() {
        edge(15, "CLASHES in order: by KEY, of one by column, 1 ahead of 3", () -> {
            Play x = new Play().rows(0, 50, 40).rows(1, 99, 50, 1).rows(2, 1, 40, 99);
            x.note(1, 1, 0, 1);
            x.write(2, 1, 2, "0");
            for (int grid = 1; grid <= 2; grid++) {
                for (int row = 0; row <= 2; row += 2) {
                    for (int column = 0; column < 3; column++) {
                        x.write(grid, row, column, "" + grid);
                        x.note(grid, row, column, grid);
                    }
                }
            }
            x.merge().is(14);
            for (int i = 0; i < 6; i++) {
                x.clashIs(i, i % 2 == 0 ? 1 : 3, 1, i / 2);
                x.clashIs(8 + i, i % 2 == 0 ? 1 : 3, 99, i / 2);
            }
            x.clashIs(6, 2, 40, -1).clashIs(7, 2, 50, -1);
        });
        edge(15, "as many CLASHES as there can be: 48", () -> {
            Play x = new Play();
            for (int grid = 1; grid <= 2; grid++) {
                Edges.eightRows(x, grid);
                for (int cell = 0; cell < 24; cell++) {
                    x.write(grid, cell / 3, cell % 3, "" + grid);
                    x.note(grid, cell / 3, cell % 3, grid);
                }
            }
            x.merge().is(48);
            x.count(5).is(48);
            x.clashIs(0, 1, 1, 0).clashIs(47, 3, 8, 2).clash(48, 0).is(-12);
        });
        edge(15, "CLASHES are those of the latest merge(), none SETTLED then", () -> {
            Play x = Play.of(Edges::busy);
            x.count(5).is(2);
            x.merge().is(3);
            x.count(5).is(3);
            x.clash(0, 3).is(0);
            x.rule(0, ADDING, 0);
            x.merge().is(2);
            x.clashIs(0, 3, 20, 1);
        });
    }

    private static void clash() {
        edge(16, "what: 0 .. 3", () -> {
            Play x = Play.of(Edges::busy);
            int[][] due = {{1, 10, 0, 0}, {3, 20, 1, 1}, {2, 30, -1, 0}};
            for (int i = 0; i < 3; i++) {
                for (int what = 0; what <= 3; what++) {
                    x.clash(i, what).is(due[i][what]);
                }
            }
            Probe.refused(Edges::busy, -2, y -> y.clash(0, -1), y -> y.clash(0, 4), y -> y.clash(0, MIN),
                    y -> y.clash(0, MAX));
        });
        edge(16, "-12: a place outside", () -> {
            Probe.refused(Edges::busy, -12, x -> x.clash(-1, 0), x -> x.clash(3, 0), x -> x.clash(48, 3),
                    x -> x.clash(MIN, 0), x -> x.clash(MAX, 0));
            new Play().clash(0, 0).is(-12);
        });
        edge(16, "BAD is named ahead of -12", () -> Probe.refused(Edges::busy, -2, x -> x.clash(3, 4), x -> x.clash(-1, -1)));
        edge(16, "SETTLED (3; 1, 0)", () -> {
            Play x = Play.of(Edges::busy);
            x.clash(1, 3).is(1);
            x.clash(2, 3).is(0);
            x.settle(2, 0).is(1);
            x.clash(0, 3).is(0);
            x.clash(2, 3).is(1);
        });
    }

    private static void full() {
        edge(15, "FULL: more than 8 ROWS would be in MERGED; all stays as it was", () -> {
            new Play().rows(1, 1, 2, 3, 4, 5).rows(2, 6, 7, 8).merge().is(0).count(3).is(8);
            Probe.refused(Edges::crowded, -4, Play::merge);
            Probe.refused(x -> {
                Edges.eightRows(x, 1);
                x.rows(2, 9);
            }, -4, Play::merge);
            Probe.refused(x -> {
                Edges.eightRows(x, 1);
                x.rows(2, 11, 12, 13, 14, 15, 16, 17, 18);
            }, -4, Play::merge);
        });
        edge(15, "of all KEYS only those that would be in MERGED count", () -> {
            Play x = new Play().rows(0, 1, 2, 3, 4, 5, 6, 7, 8).rows(1, 1, 2, 3, 4, 10, 11, 12, 13);
            x.rows(2, 5, 6, 7, 8, 14, 15, 16, 17);
            x.merge().is(0);
            x.keysAre(3, "14 15 16 17 10 11 12 13");
            x.note(2, 0, 0, 1);
            x.merge().is(-4);
            x.note(2, 0, 0, 0);
            x.merge().is(0);
        });
        edge(15, "8 ROWS of both are 8", () -> {
            Play x = new Play().rows(1, 1, 2, 3, 4, 5, 6, 7, 8).rows(2, 8, 7, 6, 5, 4, 3, 2, 1);
            x.merge().is(0);
            x.keysAre(3, "1 2 3 4 5 6 7 8");
        });
    }

    private static void merge() {
        edge(15, "MERGED is made: the other GRIDS, RULES, CHANGES, THE TAPE, SHEETS, THE IMAGE stay", () -> {
            Probe.stays(Edges::busy, Play::merge, Probe.UNDOING, Probe.IMAGE, Probe.UNDOING_THE_IMAGE, Probe.TAPE,
                    Probe.RULES, Probe.SHEETS);
            Play x = Play.of(Edges::busy);
            x.merge().is(3);
            x.keysAre(0, "10 20 30").keysAre(1, "10 20 30").keysAre(2, "40 10 20");
            x.valueIs(0, 0, 0, 5).valueIs(1, 0, 0, 6).valueIs(2, 1, 0, 8);
        });
    }
}
