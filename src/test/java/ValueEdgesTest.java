/** Promises 10 to 12 at their edges, and what the Terms say of VALUES and of what is PRINTED. */
public final class ValueEdgesTest {
    private static final Edges EDGES = new Edges("ValueEdgesTest");
    private static final int MIN = Integer.MIN_VALUE;
    private static final int MAX = Integer.MAX_VALUE;
    private static final int LOST = GridMerger.LOST;
    private static final int RING = GridMerger.RING;

    public static void main(String[] args) {
        told();
        wrongBy();
        valueRefusals();
        sums();
        wraps();
        ranges();
        rangesOfFew();
        many();
        lost();
        ring();
        firstMet();
        print();
        printed();
        EDGES.finish(10, 11, 12);
    }

    private static void edge(int promise, String sentence, Runnable body) {
        EDGES.edge(promise, sentence, body);
    }

    /** BASE has ROWS of KEYS 10, 20, 30, 40, and these texts in its CELLS a1, b1, c1, a2, .. */
    private static Play grid(String... texts) {
        Play x = new Play().rows(0, 10, 20, 30, 40);
        for (int cell = 0; cell < texts.length; cell++) {
            if (!texts[cell].isEmpty()) {
                x.write(0, cell / 3, cell % 3, texts[cell]).is(texts[cell].startsWith("=") ? 2 : 1);
            }
        }
        return x;
    }

    /** A FORMULA in CELL c4 of a GRID of such texts. */
    private static void comesTo(String formula, int due, String... texts) {
        Play x = grid(texts);
        x.write(0, 3, 2, formula).is(2);
        x.told(0, 3, 2, 3).is(0);
        x.valueIs(0, 3, 2, due);
    }

    private static void wrongBy(String formula, int due, String... texts) {
        Play x = grid(texts);
        x.write(0, 3, 2, formula).is(2);
        x.told(0, 3, 2, 3).is(due);
        x.valueIs(0, 3, 2, GridMerger.NO);
    }

    private static void told() {
        edge(10, "0 EMPTY, 1 NUMBER, 2 FORMULA (what 0); NOTE (1); KEY of the ROW (2)", () -> {
            Play x = grid("", "0", "=0");
            for (int column = 0; column < 3; column++) {
                x.told(0, 0, column, 0).is(column);
                x.told(0, 0, column, 1).is(0);
                x.told(0, 0, column, 2).is(10);
                x.told(0, 0, column, 3).is(0);
            }
            x.note(0, 0, 0, 99);
            x.told(0, 0, 0, 1).is(99);
        });
        edge(10, "what: 0 .. 3", () -> Probe.refused(Edges::busy, -2, x -> x.told(0, 0, 0, -1), x -> x.told(0, 0, 0, 4),
                x -> x.told(0, 0, 0, MIN), x -> x.told(0, 0, 0, MAX), x -> x.told(3, 0, 0, 4)));
        edge(10, "GRIDS: 0 .. 3, a ROW that is there, columns 0 .. 2", () -> {
            Play x = Play.of(Edges::busy);
            int[] lastRows = {2, 2, 2, 3};
            int[] lastKeys = {30, 30, 20, 30};
            for (int grid = 0; grid < 4; grid++) {
                for (int what = 0; what < 4; what++) {
                    x.told(grid, lastRows[grid] + 1, 0, what).is(-2);
                    x.told(grid, 0, 3, what).is(-2);
                }
                x.told(grid, lastRows[grid], 2, 2).is(lastKeys[grid]);
            }
            Probe.refused(Edges::busy, -2, y -> y.told(-1, 0, 0, 2), y -> y.told(4, 0, 0, 2), y -> y.told(0, -1, 0, 2),
                    y -> y.told(0, 3, 0, 2), y -> y.told(0, 0, -1, 2), y -> y.told(0, 0, 3, 2),
                    y -> y.told(MIN, 0, 0, 2), y -> y.told(MAX, 0, 0, 2), y -> y.told(0, MIN, 0, 2),
                    y -> y.told(0, MAX, 0, 2), y -> y.told(0, 0, MIN, 2), y -> y.told(0, 0, MAX, 2));
            new Play().told(0, 0, 0, 2).is(-2);
        });
    }

    private static void wrongBy() {
        edge(10, "0, LOST, RING: what it is WRONG by (3)", () -> {
            Play x = grid("", "5", "=5", "=#", "=b2", "=a2", "=b2", "=a1");
            int[] due = {0, 0, 0, LOST, RING, LOST, RING, 0, 0};
            for (int cell = 0; cell < due.length; cell++) {
                x.told(0, cell / 3, cell % 3, 3).is(due[cell]);
            }
        });
        edge(10, "of MERGED: by its own ROWS", () -> {
            Play x = new Play().rows(1, 10, 20).rows(0, 20);
            x.write(1, 0, 0, "=a2");
            x.told(1, 0, 0, 3).is(0);
            x.merge().is(0);
            x.keysAre(3, "10").told(3, 0, 0, 3).is(LOST);
        });
    }

    private static void valueRefusals() {
        edge(11, "NO: no such CELL", () -> {
            int[][] cells = {{-1, 0, 0}, {4, 0, 0}, {0, -1, 0}, {0, 3, 0}, {0, 8, 0}, {0, 0, -1}, {0, 0, 3}, {3, 4, 0},
                {MIN, 0, 0}, {MAX, 0, 0}, {0, MIN, 0}, {0, MAX, 0}, {0, 0, MIN}, {0, 0, MAX}};
            for (int[] c : cells) {
                Play.of(Edges::busy).valueIs(c[0], c[1], c[2], GridMerger.NO);
                Probe.stays(Edges::busy, x -> x.value(c[0], c[1], c[2]), Probe.values());
            }
            new Play().valueIs(0, 0, 0, GridMerger.NO);
        });
        edge(11, "NO: WRONG", () -> grid("=#", "=b1").valueIs(0, 0, 0, GridMerger.NO).valueIs(0, 0, 1, GridMerger.NO));
        edge(11, "VALUE of a CELL: 0, if EMPTY; the NUMBER", () -> grid("", "-999999", "999999").valueIs(0, 0, 0, 0)
                .valueIs(0, 0, 1, -999999).valueIs(0, 0, 2, 999999).valueIs(0, 3, 2, 0));
    }

    private static void sums() {
        edge(11, "what it comes to, from left to right", () -> {
            comesTo("=1-2-3", -4);
            comesTo("=10-2+3", 11);
            comesTo("=2*3*4", 24);
            comesTo("=1+2*3", 7);
            comesTo("=2*3-4*5", -14);
            comesTo("=(1+2)*3", 9);
            comesTo("=1-(2-3)", 2);
            comesTo("=-2*3", -6);
            comesTo("=-(2-3)*4", 4);
            comesTo("=----5", 5);
            comesTo("=5--5", 10);
            comesTo("=0-0", 0);
        });
        edge(11, "of a REF the VALUE of that CELL", () -> {
            comesTo("=a1-$b1*c1", 7 - 3 * 5, "7", "3", "5");
            comesTo("=a1+b1", 5, "", "5");
            comesTo("=-a2", -14, "7", "", "", "=a1*2");
        });
    }

    private static void wraps() {
        edge(11, "sums wrap", () -> {
            comesTo("=46340*46340+88047", MAX);
            comesTo("=46340*46340+88048", MIN);
            comesTo("=0-46340*46340-88048", MIN);
            comesTo("=0-46340*46340-88049", MAX);
            comesTo("=-(0-46340*46340-88048)", MIN);
        });
        edge(11, "products wrap", () -> {
            comesTo("=46340*46340", 2147395600);
            comesTo("=46341*46341", -2147479015);
            comesTo("=65536*32768", MIN);
            comesTo("=-65536*32768", MIN);
            comesTo("=65536*65536", 0);
            comesTo("=999999*999999*999999", 999999 * 999999 * 999999);
        });
        edge(11, "total wraps", () -> {
            comesTo("=total(a1:b1)", MAX, "=46340*46340", "88047");
            comesTo("=total(a1:b1)", MIN, "=46340*46340", "88048");
        });
    }

    private static void ranges() {
        edge(11, "all CELLS of the columns and of the ROWS from the one's to the other's (the other way round, too)", () -> {
            String[] texts = {"1", "2", "4", "8", "16", "32", "64", "128", "256"};
            for (int one = 0; one < 9; one++) {
                for (int other = 0; other < 9; other++) {
                    int due = 0;
                    for (int cell = 0; cell < 9; cell++) {
                        boolean isInRows = cell / 3 >= Math.min(one / 3, other / 3) && cell / 3 <= Math.max(one / 3, other / 3);
                        boolean isInColumns = cell % 3 >= Math.min(one % 3, other % 3)
                                && cell % 3 <= Math.max(one % 3, other % 3);
                        due += isInRows && isInColumns ? 1 << cell : 0;
                    }
                    comesTo("=total(" + name(one) + ":$" + name(other) + ")", due, texts);
                }
            }
        });
        edge(11, "of the ROWS as they stand now", () -> {
            Play x = grid("1", "", "", "2", "", "", "4", "", "", "8", "=total(a1:a3)");
            x.valueIs(0, 3, 1, 7);
            x.move(0, 0, 3).is(10).valueIs(0, 2, 1, 1 + 8 + 4);
            x.move(0, 2, 0).is(40).valueIs(0, 0, 1, 1 + 4);
            x.row(0, 3, 50).is(5);
            x.write(0, 3, 0, "16");
            x.valueIs(0, 0, 1, 1 + 16 + 4);
            x.drop(0, 3).is(50).valueIs(0, 0, 1, 1 + 4);
        });
    }

    private static String name(int cell) {
        return "abc".substring(cell % 3, cell % 3 + 1) + (cell / 3 + 1);
    }

    private static void rangesOfFew() {
        edge(11, "a RANGE of one CELL", () -> {
            for (String word : new String[] {"total", "most", "least"}) {
                comesTo("=" + word + "(b2:b2)", -7, "9", "9", "9", "9", "-7", "9");
            }
            comesTo("=many(b2:b2)", 1, "", "", "", "", "-7");
        });
        edge(11, "most the greatest, least the least of VALUES", () -> {
            comesTo("=most(a1:c1)", -2, "-3", "-2", "-9");
            comesTo("=least(a1:c1)", 2, "3", "2", "9");
            comesTo("=most(a1:c1)", 9, "3", "2", "9");
            comesTo("=least(a1:c1)", -9, "-3", "-2", "-9");
            comesTo("=most(a1:b1)", MIN, "=65536*32768", "=65536*32768");
            comesTo("=least(a1:b1)", MAX, "=65536*32768-1", "=65536*32768-1");
            comesTo("=most(a1:b1)", MAX, "=65536*32768-1", "=65536*32768");
            comesTo("=least(a1:b1)", MIN, "=65536*32768-1", "=65536*32768");
        });
        edge(11, "most, least, total: EMPTY is 0", () -> {
            comesTo("=most(a1:b1)", 0, "-3", "");
            comesTo("=least(a1:b1)", 0, "3", "");
            comesTo("=total(a1:b1)", 3, "3", "");
            comesTo("=total(a2:c3)", 0);
        });
    }

    private static void many() {
        edge(11, "many how many aren't EMPTY: 0 isn't EMPTY", () -> {
            comesTo("=many(a1:c1)", 2, "0", "", "=0");
            comesTo("=many(a1:c3)", 0);
            comesTo("=many(a1:c3)", 9, "1", "1", "1", "1", "1", "1", "1", "1", "1");
        });
        edge(11, "many asks none: what is WRONG counts, its own CELL too", () -> {
            comesTo("=many(a1:b1)", 2, "=#", "=b1");
            comesTo("=many(c4:c4)", 1);
            comesTo("=many(a4:c4)", 1);
        });
    }

    private static void lost() {
        edge(11, "LOST: a REF to a KEY that no ROW of the GRID has", () -> {
            Play x = grid("=a2", "=$a2", "=total(a2:a2)", "5");
            x.drop(0, 1).is(20);
            for (int column = 0; column < 3; column++) {
                x.told(0, 0, column, 3).is(LOST);
            }
            x.row(0, 3, 20).is(4);
            for (int column = 0; column < 3; column++) {
                x.told(0, 0, column, 3).is(0);
                x.valueIs(0, 0, column, 0);
            }
        });
        edge(11, "LOST: # always; of a RANGE the first or the second REF, also of many", () -> {
            wrongBy("=#", LOST);
            wrongBy("=0*#", LOST);
            for (String word : new String[] {"total", "most", "least", "many"}) {
                wrongBy("=" + word + "(#:a1)", LOST);
                wrongBy("=" + word + "(a1:#)", LOST);
                wrongBy("=" + word + "(#:#)", LOST);
            }
        });
        edge(11, "what a CELL that is asked is WRONG by", () -> {
            wrongBy("=a1", LOST, "=b1", "=c1", "=#");
            wrongBy("=0*total(a1:c1)", LOST, "", "", "=#");
            wrongBy("=1+a1", RING, "=b1", "=a1");
        });
    }

    private static void ring() {
        edge(11, "RING: a CELL is asked for which is being asked: itself, through another one, through a RANGE", () -> {
            wrongBy("=c4", RING);
            wrongBy("=a1", RING, "=total(c3:c4)");
            wrongBy("=total(a4:c4)", RING);
            wrongBy("=most(c4:c4)", RING);
            wrongBy("=least(b4:c4)", RING);
            wrongBy("=a1*0", RING, "=total(c3:c4)");
        });
        edge(11, "each is asked once in one asking: one that was asked is no RING", () -> {
            comesTo("=a1+a1+total(a1:b1)", 20, "5", "=a1");
            Play x = new Play();
            Edges.eightRows(x, 0);
            int due = 1;
            x.write(0, 0, 0, "1");
            for (int cell = 1; cell < 24; cell++) {
                x.write(0, cell / 3, cell % 3, "=" + name(cell - 1) + ("+" + name(cell - 1)).repeat(12)).is(2);
                due *= 13;
            }
            x.valueIs(0, 7, 2, due).told(0, 7, 2, 3).is(0);
        });
        edge(11, "the longest RING, of all 24 CELLS", () -> {
            Play x = new Play();
            Edges.eightRows(x, 1);
            for (int cell = 0; cell < 24; cell++) {
                x.write(1, cell / 3, cell % 3, "=1+1*(1+1*(1+1*(1-1*(" + name((cell + 1) % 24) + "))))").is(2);
            }
            for (int cell = 0; cell < 24; cell++) {
                x.told(1, cell / 3, cell % 3, 3).is(RING);
            }
            x.write(1, 3, 1, "=#").is(2);
            x.told(1, 3, 2, 3).is(LOST);
            x.write(1, 3, 1, "7").is(1);
            x.told(1, 3, 2, 3).is(0);
        });
        edge(11, "the longest chain, of all 24 CELLS, each asked amid SUMS and PARTS that wait for it: no RING", () -> {
            Play x = new Play();
            Edges.eightRows(x, 2);
            for (int cell = 0; cell < 23; cell++) {
                x.write(2, cell / 3, cell % 3, "=1+1*(1+1*(1+1*(1+1*(1+1*" + name(cell + 1) + "))))").is(2);
            }
            x.write(2, 7, 2, "7").is(1);
            x.valueIs(2, 0, 0, 7 + 23 * 5).told(2, 0, 0, 3).is(0);
            x.valueIs(2, 7, 1, 12);
        });
        edge(11, "the longest chain through RANGES: no RING", () -> {
            String[] words = {"total", "most", "least"};
            Play x = new Play();
            Edges.eightRows(x, 2);
            for (int cell = 0; cell < 23; cell++) {
                String next = name(cell + 1);
                x.write(2, cell / 3, cell % 3, "=1+" + words[cell % 3] + "(" + next + ":" + next + ")").is(2);
            }
            x.write(2, 7, 2, "7").is(1);
            x.valueIs(2, 0, 0, 7 + 23).told(2, 0, 0, 3).is(0);
        });
        edge(11, "a RING is none any more, when a CELL of it is otherwise", () -> {
            Play x = grid("=b1", "=a1");
            x.told(0, 0, 0, 3).is(RING);
            x.write(0, 0, 1, "3");
            x.valueIs(0, 0, 0, 3);
        });
    }

    private static void firstMet() {
        edge(11, "WRONG, by the first that is met: from left to right", () -> {
            wrongBy("=#+c4", LOST);
            wrongBy("=c4+#", RING);
            wrongBy("=1-c4*#", RING);
            wrongBy("=#*c4", LOST);
            wrongBy("=-(c4)+#", RING);
            wrongBy("=-#+c4", LOST);
            wrongBy("=a1+c4", LOST, "=#");
            wrongBy("=a1+#", RING, "=a1");
        });
        edge(11, "WRONG, by the first that is met: in a RANGE row by row", () -> {
            wrongBy("=total(a1:b2)", LOST, "", "=#", "", "=a2");
            wrongBy("=total(a1:b2)", RING, "", "=b1", "", "=#");
            wrongBy("=most(a1:b2)", LOST, "", "", "", "=#", "=b2");
            wrongBy("=least(a1:b2)", RING, "", "", "", "=a2", "=#");
        });
        edge(11, "LOST REFS of a RANGE ahead of its CELLS", () -> {
            wrongBy("=total(c4:#)", LOST);
            wrongBy("=total(#:c4)", LOST);
            wrongBy("=most(a1:#)", LOST, "=a1");
        });
    }

    private static void print() {
        edge(12, "how long (k -1), byte k", () -> {
            Play x = grid("-12");
            x.print(0, 0, 0, -1).is(3);
            x.print(0, 0, 0, 0).is('-');
            x.print(0, 0, 0, 1).is('1');
            x.print(0, 0, 0, 2).is('2');
        });
        edge(12, "-12: a place outside", () -> Probe.refused(Edges::busy, -12, x -> x.print(0, 1, 0, 5),
                x -> x.print(0, 1, 0, 6), x -> x.print(0, 1, 0, -2), x -> x.print(0, 1, 0, MIN),
                x -> x.print(0, 1, 0, MAX), x -> x.print(0, 2, 2, 0)));
        edge(12, "EMPTY: nothing", () -> {
            Play x = grid("");
            x.print(0, 0, 0, -1).is(0);
            x.print(0, 0, 0, 0).is(-12);
        });
        edge(12, "BAD: no such CELL; named ahead of -12", () -> {
            Probe.refused(Edges::busy, -2, x -> x.print(-1, 0, 0, -1), x -> x.print(4, 0, 0, -1), x -> x.print(0, -1, 0, -1),
                    x -> x.print(0, 3, 0, -1), x -> x.print(0, 0, -1, -1), x -> x.print(0, 0, 3, -1),
                    x -> x.print(4, 0, 0, 99), x -> x.print(0, 3, 0, -2), x -> x.print(MIN, 0, 0, 0),
                    x -> x.print(MAX, 0, 0, 0), x -> x.print(0, MIN, 0, 0), x -> x.print(0, MAX, 0, 0),
                    x -> x.print(0, 0, MIN, 0), x -> x.print(0, 0, MAX, 0));
            new Play().print(0, 0, 0, -1).is(-2);
        });
        edge(12, "at its longest", () -> {
            Play x = grid("=1234+1234+1234+1234+1234+1234+1234+1234");
            x.print(0, 0, 0, -1).is(40);
            x.print(0, 0, 0, 39).is('4');
            x.print(0, 0, 0, 40).is(-12);
        });
    }

    private static void prints(String due, String text) {
        grid().write(0, 3, 2, text).is(text.startsWith("=") ? 2 : 1).prints(0, 3, 2, due);
    }

    private static void printed() {
        edge(12, "a NUMBER: - if it is below 0, its digits", () -> {
            prints("0", "0");
            prints("0", "-0");
            prints("-1", "-000001");
            prints("999999", "999999");
            prints("-999999", "- 999999");
        });
        edge(12, "a NUMBER of more digits than can be written", () -> {
            Play x = new Play().rows(0, 1).rows(1, 1).rows(2, 1);
            x.write(0, 0, 0, "999999");
            x.write(1, 0, 0, "-999999");
            x.write(2, 0, 0, "-999998");
            x.rule(0, 3, 0);
            x.merge().is(0);
            x.prints(3, 0, 0, "-2999996");
        });
        edge(12, "a FORMULA: = and its TOKENS without blanks, NUMBERS without 0 ahead", () -> {
            prints("=0", "= 000000");
            prints("=7-10", "=07 -\n0010");
            prints("=a1+$b2*(-c4-3)", "= a 1+$ b 002*(- c4 - 03 )");
            prints("=total(a1:b2)+most(#:a1)", "=total(a1:b2)+most( # : a1)");
            prints("=least(a1:a1)-many($c4:#)", "=least(a1:a1)-many($c4:#)");
            prints("=----1", "=- - - -1");
        });
        edge(12, "a REF with the place that its ROW has now, # alone if it is LOST", () -> {
            Play x = new Play();
            Edges.eightRows(x, 0);
            x.write(0, 0, 0, "=a8+$b8");
            x.prints(0, 0, 0, "=a8+$b8");
            x.move(0, 7, 0).is(8).prints(0, 1, 0, "=a1+$b1");
            x.drop(0, 0).is(8).prints(0, 0, 0, "=#+#").print(0, 0, 0, -1).is(4);
        });
        edge(12, "of MERGED: with the place that the ROW has there", () -> {
            Play x = new Play().rows(1, 1, 2).rows(2, 9, 1);
            x.write(1, 0, 0, "=a2+a1");
            x.merge().is(0);
            x.keysAre(3, "9 1 2").prints(3, 1, 0, "=a3+a2").prints(1, 0, 0, "=a2+a1");
        });
    }
}
