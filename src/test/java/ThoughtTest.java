/** Promises 20 to 22. */
public final class ThoughtTest {
    private static final Check CHECK = new Check("ThoughtTest");

    public static void main(String[] args) {
        exchanged();
        drawn();
        drawnByHand();
        chance();
        nothingChanges();
        CHECK.finish();
    }

    private static void due(String call, long got, long want) {
        CHECK.due(call, got, want);
    }

    private static void exchanged() {
        GridMerger x = new GridMerger();
        due("of nothing", x.exchanged(), 0);
        for (int g = 0; g < 3; g++) {
            Check.rows(x, g, 1, 2);
        }
        Check.write(x, 1, 0, 0, "1");
        Check.write(x, 2, 0, 0, "2");
        Check.write(x, 1, 1, 1, "3");
        Check.write(x, 2, 1, 2, "3");
        x.note(1, 0, 2, 1);
        x.note(2, 0, 2, 2);
        due("one is chosen", x.exchanged(), 1);
        int[] otherwise = {1, 1, 0, 0, 0, 0};
        for (int kind = 0; kind < 6; kind++) {
            x.rule(0, kind, 99);
            due("by RULE " + kind, x.exchanged(), otherwise[kind]);
        }
        x.rule(0, 2, 0);
        Check.write(x, 1, 0, 0, "=1");
        due("GREATER of a FORMULA", x.exchanged(), 1);
        x.rule(0, 3, 0);
        due("ADDING of a FORMULA", x.exchanged(), 1);
        Check.write(x, 2, 0, 0, "=01");
        due("alike FORMULAS", x.exchanged(), 0);
        x.row(1, 0, 7);
        x.row(2, 0, 8);
        Check.write(x, 1, 0, 0, "5");
        Check.write(x, 2, 0, 0, "6");
        Check.write(x, 1, 1, 0, "1");
        due("by KEY, not by place", x.exchanged(), 1);
        x.merge();
        CHECK.text("order of MERGED", Check.keys(x, 3), "8 7 1 2");
        for (int key = 11; key < 16; key++) {
            x.row(1, 0, key);
        }
        due("FULL", x.exchanged(), -4);
    }

    private static void drawn() {
        GridMerger x = new GridMerger();
        due("of nothing", x.drawn(5, 20), 0);
        due("BAD", x.drawn(5, -1), -2);
        due("BAD", x.drawn(5, 21), -2);
        due("BAD ahead of FULL", full().drawn(5, 21), -2);
        due("FULL", full().drawn(5, 0), -4);
        Check.rows(x, 1, 1);
        Check.rows(x, 2, 1);
        Check.write(x, 1, 0, 0, "1");
        Check.write(x, 2, 0, 0, "2");
        due("n is 0", x.drawn(5, 0), 1);
        for (int g = 0; g < 2; g++) {
            x = new GridMerger();
            Check.rows(x, 0, 1, 2, 3, 4, 5, 6, 7, 8);
            Check.rows(x, 1 + g, 1, 2, 3, 4, 5, 6, 7, 8);
            int found = x.drawn(1, 20);
            due("ROWS that are CHANGED then", found > 0 && found <= 8 ? 1 : 0, 1);
        }
    }

    private static GridMerger full() {
        GridMerger x = new GridMerger();
        Check.rows(x, 1, 1, 2, 3, 4, 5);
        Check.rows(x, 2, 6, 7, 8, 9);
        return x;
    }

    /** Draws as the document says, but writes truly. */
    private static int byHand(GridMerger x, int seed, int n) {
        int z = seed;
        for (int i = 0; i < n; i++) {
            z = z * 1103515245 + 12345;
            int grid = 1 + (z >>> 9) % 2;
            if (x.count(grid) > 0) {
                z = z * 1103515245 + 12345;
                int place = (z >>> 9) % x.count(grid);
                z = z * 1103515245 + 12345;
                int column = (z >>> 9) % 3;
                z = z * 1103515245 + 12345;
                Check.write(x, grid, place, column, "" + (z >>> 9) % 10);
            }
        }
        return x.merge();
    }

    private static GridMerger common(int minesRows, int theirsRows) {
        GridMerger x = new GridMerger();
        Check.rows(x, 0, 1, 2, 3, 4);
        for (int key = 1; key <= minesRows; key++) {
            x.row(1, 0, key);
        }
        for (int key = 1; key <= theirsRows; key++) {
            x.row(2, 0, 5 - key);
        }
        return x;
    }

    private static void drawnByHand() {
        int[] seeds = {0, 1, -1, 3, 77, Integer.MAX_VALUE, Integer.MIN_VALUE, 123456789, -99};
        int[][] sizes = {{4, 4}, {4, 2}, {1, 1}, {3, 0}, {0, 2}, {2, 4}, {0, 0}};
        for (int seed : seeds) {
            for (int[] size : sizes) {
                for (int n : new int[] {0, 1, 3, 20}) {
                    int got = common(size[0], size[1]).drawn(seed, n);
                    due("drawn(" + seed + ", " + n + ")", got, byHand(common(size[0], size[1]), seed, n));
                }
            }
        }
    }

    private static void chance() {
        for (int[] size : new int[][] {{4, 4}, {1, 1}, {2, 2}, {4, 0}}) {
            for (int m = 1; m <= 8; m++) {
                int free = 0;
                int seed = Integer.MAX_VALUE - 3;
                for (int i = 0; i < m; i++) {
                    free += common(size[0], size[1]).drawn(seed + i, 3) == 0 ? 1 : 0;
                }
                int above = common(size[0], size[1]).chance(seed, m, 0);
                int below = common(size[0], size[1]).chance(seed, m, 1);
                due("chance", above * m, free * below);
                for (int d = 2; d <= 8; d++) {
                    due("lowest terms", above % d == 0 && below % d == 0 ? 1 : 0, 0);
                }
            }
        }
        GridMerger x = full();
        due("FULL", x.chance(1, 1, 0), -4);
        int[][] bad = {{0, 0}, {9, 0}, {-1, 0}, {1, -1}, {1, 2}};
        for (int[] b : bad) {
            due("BAD ahead of FULL", x.chance(1, b[0], b[1]), -2);
        }
        x = new GridMerger();
        due("always", x.chance(1, 8, 0), 1);
        due("always", x.chance(1, 8, 1), 1);
        Check.rows(x, 1, 1);
        Check.rows(x, 2, 1);
        for (int column = 0; column < 3; column++) {
            x.note(1, 0, column, 1);
            x.note(2, 0, column, 2);
        }
        due("never", x.chance(1, 8, 0), 0);
        due("never", x.chance(1, 8, 1), 1);
    }

    private static void nothingChanges() {
        GridMerger x = common(4, 4);
        Check.write(x, 1, 0, 0, "1");
        Check.write(x, 2, 0, 0, "2");
        int changes = x.count(6);
        due("merge", x.merge(), 0);
        x.exchanged();
        x.drawn(7, 20);
        x.chance(7, 8, 0);
        due("CHANGES", x.count(6), changes);
        for (int g = 1; g <= 2; g++) {
            int written = 0;
            for (int cell = 0; cell < 12; cell++) {
                written += x.told(g, cell / 3, cell % 3, 0);
            }
            due("GRID " + g + " stays", written, 1);
        }
        due("merge() stands", x.take(), 4);
    }
}
