import java.util.function.Consumer;

/** Promises 20 to 22 at their edges. */
public final class ThoughtEdgesTest {
    private static final Edges EDGES = new Edges("ThoughtEdgesTest");
    private static final int MIN = Integer.MIN_VALUE;
    private static final int MAX = Integer.MAX_VALUE;
    private static final int[] SEEDS = {0, 1, 2, 3, 5, 8, 99, 12345, -1, -2, -12345, MAX, MIN, MAX - 1, MIN + 1, 1 << 16};

    public static void main(String[] args) {
        exchanged();
        exchangedByRules();
        drawn();
        drawnFull();
        chance();
        chanceTerms();
        chanceFull();
        EDGES.finish(20, 21, 22);
    }

    private static void edge(int promise, String sentence, Runnable body) {
        EDGES.edge(promise, sentence, body);
    }

    private static void exchanged() {
        edge(20, "of how many CELLS: none, all 24", () -> {
            new Play().exchanged().is(0);
            new Play().rows(1, 1, 2).rows(2, 2, 3).exchanged().is(0);
            Play x = new Play();
            for (int grid = 1; grid <= 2; grid++) {
                Edges.eightRows(x, grid);
                for (int cell = 0; cell < 24; cell++) {
                    x.write(grid, cell / 3, cell % 3, "" + grid);
                }
            }
            x.exchanged().is(24);
            x.write(1, 7, 2, "2");
            x.exchanged().is(23);
        });
        edge(20, "CONTENT, not NOTES; CONTENT, not VALUES", () -> {
            Play x = new Play().rows(1, 1).rows(2, 1);
            x.note(1, 0, 0, 1);
            x.note(2, 0, 0, 2);
            x.exchanged().is(0);
            x.write(1, 0, 0, "2");
            x.write(2, 0, 0, "=2");
            x.exchanged().is(1);
            x.write(1, 0, 0, "=02");
            x.exchanged().is(0);
        });
        edge(20, "by KEY, wherever its ROW would stand", () -> {
            Play x = new Play().rows(1, 1, 2, 3).rows(2, 9, 3, 2, 1);
            x.write(1, 0, 0, "1");
            x.write(1, 1, 0, "2");
            x.write(1, 2, 0, "3");
            x.write(2, 0, 0, "4");
            x.exchanged().is(0);
            x.write(2, 1, 0, "5");
            x.exchanged().is(1);
        });
        edge(20, "as merge() would make it now, not as MERGED is", () -> {
            Play x = new Play().rows(1, 1).rows(2, 1);
            x.merge().is(0);
            x.write(1, 0, 0, "1");
            x.write(2, 0, 0, "2");
            x.exchanged().is(1);
            x.merge().is(1);
            x.write(1, 0, 0, "2");
            x.exchanged().is(0);
        });
        edge(20, "who has a ROW alone tells it, exchanged too", () -> {
            Play x = new Play().rows(0, 1, 2).rows(1, 1).rows(2, 2);
            x.write(1, 0, 0, "1");
            x.write(2, 0, 0, "2");
            x.exchanged().is(0);
        });
        edge(20, "FULL", () -> {
            Probe.refused(Edges::crowded, -4, Play::exchanged);
            new Play().rows(1, 1, 2, 3, 4, 5).rows(2, 6, 7, 8).exchanged().is(0);
        });
        edge(20, "in thought: all stays", () -> Probe.stays(Edges::busy, x -> x.exchanged().is(0), Probe.values()));
    }

    private static void exchangedByRules() {
        edge(20, "EXCHANGED by each RULE", () -> {
            String[][] cases = {{"1", "2", "3"}, {"", "2", "3"}, {"1", "=2", "3"}, {"=1", "2", "3"}, {"1", "2", ""}};
            int[][] due = {{1, 1, 0, 0, 0, 0}, {1, 1, 0, 0, 0, 0}, {1, 1, 1, 1, 1, 0}, {1, 1, 0, 0, 0, 0}, {1, 1, 1, 1, 1, 0}};
            for (int i = 0; i < cases.length; i++) {
                for (int kind = 0; kind <= 5; kind++) {
                    Play x = new Play();
                    for (int grid = 0; grid < 3; grid++) {
                        x.rows(grid, 5);
                        x.write(grid, 0, 2, cases[i][grid]);
                    }
                    x.rule(2, kind, 3);
                    x.exchanged().is(due[i][kind]);
                }
            }
        });
    }

    private static final class Draws {
        private int z;

        Draws(int seed) {
            z = seed;
        }

        int next(int n) {
            z = z * 1103515245 + 12345;
            return (z >>> 9) % n;
        }
    }

    /** Draws as the document says, but writes truly; what merge() answers then. */
    private static int byHand(Play x, int seed, int n) {
        Draws draws = new Draws(seed);
        for (int i = 0; i < n; i++) {
            int grid = 1 + draws.next(2);
            int rows = x.count(grid).got;
            if (rows > 0) {
                int place = draws.next(rows);
                int column = draws.next(3);
                x.write(grid, place, column, "" + draws.next(10)).is(1);
            }
        }
        return x.merge().got;
    }

    private static Consumer<Play> common(int minesRows, int theirsRows) {
        return x -> {
            x.rows(0, 1, 2, 3);
            for (int key = 1; key <= minesRows; key++) {
                x.row(1, 0, key);
            }
            for (int key = 1; key <= theirsRows; key++) {
                x.row(2, 0, 9 - key);
            }
            x.rule(0, 3, 0);
        };
    }

    private static void drawn() {
        edge(21, "n times (0 .. 20)", () -> {
            Play x = Play.of(Edges::busy);
            x.drawn(1, 0).is(3);
            for (int n : new int[] {-1, 21, MIN, MAX}) {
                Probe.refused(Edges::busy, -2, y -> y.drawn(1, n));
            }
            Probe.refused(Edges::crowded, -2, y -> y.drawn(1, 21), y -> y.drawn(1, -1));
        });
        edge(21, "0 times: the CLASHES of now", () -> {
            for (int seed : SEEDS) {
                Play.of(Edges::busy).drawn(seed, 0).is(3);
                new Play().drawn(seed, 0).is(0);
            }
        });
        edge(21, "DRAWN by a SEED, of each size: what truly written ones would make", () -> {
            int[][] sizes = {{8, 8}, {1, 1}, {8, 1}, {3, 7}, {5, 5}};
            for (int[] size : sizes) {
                for (int seed : SEEDS) {
                    for (int n : new int[] {1, 2, 3, 19, 20}) {
                        Play x = Play.of(common(size[0], size[1]));
                        x.drawn(seed, n).is(byHand(Play.of(common(size[0], size[1])), seed, n));
                    }
                }
            }
        });
        edge(21, "if it has ROWS: else no more is drawn of it", () -> {
            int[][] sizes = {{0, 0}, {0, 1}, {1, 0}, {0, 8}, {8, 0}, {3, 0}, {0, 3}};
            for (int[] size : sizes) {
                for (int seed : SEEDS) {
                    for (int n : new int[] {1, 2, 3, 20}) {
                        Play x = Play.of(common(size[0], size[1]));
                        x.drawn(seed, n).is(byHand(Play.of(common(size[0], size[1])), seed, n));
                    }
                }
            }
        });
        edge(21, "in thought: all stays", () -> {
            Probe.stays(Edges::busy, x -> x.drawn(7, 20), Probe.values());
            Play x = Play.of(Edges::busy);
            int first = x.drawn(7, 20).got;
            x.drawn(7, 20).is(first);
        });
        edge(21, "a NUMBER is written, the NOTE stays", () -> {
            Play x = new Play().rows(0, 1).rows(1, 1).rows(2, 1);
            for (int column = 0; column < 3; column++) {
                x.note(1, 0, column, 1);
                x.note(2, 0, column, 2);
                x.rule(column, 3, 0);
            }
            for (int seed : SEEDS) {
                int found = x.drawn(seed, 20).got;
                if (found < 3) {
                    throw x.wrong("due are 3 CLASHES 3 at least");
                }
            }
        });
    }

    /** KEY 1 of THEIRS is as in BASE; MERGED has 8 ROWS of MINE: it is FULL, if that one is CHANGED. */
    private static void nearlyFull(Play x) {
        x.rows(0, 1).rows(2, 1).rows(1, 2, 3, 4, 5, 6, 7, 8, 9);
        x.write(0, 0, 0, "5");
        x.write(2, 0, 0, "5");
    }

    private static void drawnFull() {
        edge(21, "FULL", () -> Probe.refused(Edges::crowded, -4, x -> x.drawn(1, 0), x -> x.drawn(-1, 20)));
        edge(21, "FULL: by what is DRAWN", () -> {
            int full = 0;
            for (int seed = 0; seed < 300; seed++) {
                Draws draws = new Draws(seed);
                boolean isTheirs = draws.next(2) == 1;
                draws.next(isTheirs ? 1 : 8);
                boolean isAsItWas = draws.next(3) == 0 && draws.next(10) == 5;
                boolean isFull = isTheirs && !isAsItWas;
                full += isFull ? 1 : 0;
                Play.of(ThoughtEdgesTest::nearlyFull).drawn(seed, 1).is(isFull ? -4 : 0);
            }
            if (full == 0 || full == 300) {
                throw new Play.WrongAnswer("no seeds of both");
            }
        });
        edge(21, "not FULL any more by what is DRAWN", () -> {
            int fit = 0;
            for (int seed = 0; seed < 300; seed++) {
                Draws draws = new Draws(seed);
                boolean isTheirs = draws.next(2) == 1;
                draws.next(isTheirs ? 1 : 8);
                boolean isFit = isTheirs && draws.next(3) == 0 && draws.next(10) == 5;
                fit += isFit ? 1 : 0;
                Play x = Play.of(ThoughtEdgesTest::nearlyFull);
                x.write(2, 0, 0, "77");
                x.drawn(seed, 1).is(isFit ? 0 : -4);
            }
            if (fit == 0) {
                throw new Play.WrongAnswer("no seed of it");
            }
        });
    }

    private static void chance() {
        edge(22, "m seeds (1 .. 8), part 0, 1", () -> {
            for (int m = 1; m <= 8; m++) {
                new Play().chance(5, m, 0).is(1);
                new Play().chance(5, m, 1).is(1);
            }
            for (int v : new int[] {0, 9, -1, MIN, MAX}) {
                Probe.refused(Edges::busy, -2, x -> x.chance(1, v, 0), x -> x.chance(1, v, 1));
            }
            for (int v : new int[] {-1, 2, MIN, MAX}) {
                Probe.refused(Edges::busy, -2, x -> x.chance(1, 1, v), x -> x.chance(1, 8, v));
            }
        });
        edge(22, "BAD is named ahead of FULL", () -> Probe.refused(Edges::crowded, -2, x -> x.chance(1, 0, 0),
                x -> x.chance(1, 9, 0), x -> x.chance(1, 1, 2), x -> x.chance(1, 1, -1)));
        edge(22, "in thought: all stays", () -> {
            Probe.stays(Edges::busy, x -> x.chance(7, 8, 0), Probe.values());
            Probe.stays(Edges::busy, x -> x.chance(7, 8, 1), Probe.values());
        });
    }

    private static int highestCommon(int a, int b) {
        return b == 0 ? a : highestCommon(b, a % b);
    }

    private static void chanceTerms() {
        edge(22, "SEED and each 1 more (an int), n 3: of these those by which there is none, in lowest terms", () -> {
            boolean[] seen = new boolean[9];
            int[][] sizes = {{3, 8}, {1, 8}, {2, 7}, {5, 5}, {8, 8}};
            for (int[] size : sizes) {
                for (int seed : new int[] {0, 7, -5, 1000, MAX - 3, MAX, MIN}) {
                    for (int m = 1; m <= 8; m++) {
                        int free = 0;
                        for (int i = 0; i < m; i++) {
                            free += byHand(Play.of(common(size[0], size[1])), seed + i, 3) == 0 ? 1 : 0;
                        }
                        int common = highestCommon(free, m);
                        Play x = Play.of(common(size[0], size[1]));
                        x.chance(seed, m, 0).is(free / common);
                        x.chance(seed, m, 1).is(m / common);
                        seen[free] = true;
                    }
                }
            }
            for (int free = 0; free <= 8; free++) {
                if (!seen[free]) {
                    throw new Play.WrongAnswer("no such of which " + free + " have none");
                }
            }
        });
        edge(22, "none of m: 0 above, 1 below; all of m: 1 above, 1 below", () -> {
            Play never = new Play().rows(1, 1).rows(2, 1);
            never.note(1, 0, 0, 1);
            never.note(2, 0, 0, 2);
            for (int m = 1; m <= 8; m++) {
                never.chance(3, m, 0).is(0);
                never.chance(3, m, 1).is(1);
            }
            Play always = new Play().rows(1, 1).rows(2, 2);
            for (int m = 1; m <= 8; m++) {
                always.chance(3, m, 0).is(1);
                always.chance(3, m, 1).is(1);
            }
        });
    }

    private static void chanceFull() {
        edge(22, "FULL", () -> Probe.refused(Edges::crowded, -4, x -> x.chance(1, 1, 0), x -> x.chance(-1, 8, 1)));
        edge(22, "FULL: by any of the seeds", () -> {
            boolean[] seen = new boolean[2];
            for (int seed = 0; seed < 200; seed++) {
                for (int m = 1; m <= 2; m++) {
                    boolean isFull = false;
                    for (int i = 0; i < m; i++) {
                        isFull |= byHand(Play.of(ThoughtEdgesTest::nearlyFull), seed + i, 3) == -4;
                    }
                    seen[isFull ? 1 : 0] = true;
                    for (int part = 0; part <= 1; part++) {
                        int got = Play.of(ThoughtEdgesTest::nearlyFull).chance(seed, m, part).got;
                        if ((got == -4) != isFull) {
                            throw new Play.WrongAnswer("chance(" + seed + ", " + m + ", " + part + ") answered " + got);
                        }
                    }
                }
            }
            if (!seen[0] || !seen[1]) {
                throw new Play.WrongAnswer("no seeds of both");
            }
        });
    }
}
