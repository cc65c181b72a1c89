/** Counts the answers that are not due, for the tests. */
final class Check {
    private final String test;
    private int wrong;
    private int all;

    Check(String test) {
        this.test = test;
    }

    void due(String call, long got, long want) {
        all++;
        if (got != want) {
            wrong++;
            System.out.println(test + ": " + call + " answered " + got + ", due is " + want);
        }
    }

    void text(String call, String got, String want) {
        all++;
        if (!got.equals(want)) {
            wrong++;
            System.out.println(test + ": " + call + " answered \"" + got + "\", due is \"" + want + "\"");
        }
    }

    void finish() {
        System.out.println(test + ": " + (all - wrong) + " of " + all + " as due");
        if (wrong != 0 || all == 0) {
            System.exit(1);
        }
    }

    /** Feeds a text and writes it. */
    static int write(GridMerger x, int grid, int row, int column, String text) {
        feed(x, text);
        return x.write(grid, row, column);
    }

    /** Feeds a text in pieces; what the last piece answered. */
    static int feed(GridMerger x, String text) {
        int answer = 0;
        for (int i = 0; i < text.length(); i += 5) {
            int n = Math.min(5, text.length() - i);
            int[] b = new int[5];
            for (int j = 0; j < n; j++) {
                b[j] = text.charAt(i + j);
            }
            answer = x.feed(n, b[0], b[1], b[2], b[3], b[4]);
        }
        return answer;
    }

    static String printed(GridMerger x, int grid, int row, int column) {
        StringBuilder text = new StringBuilder();
        int n = x.print(grid, row, column, -1);
        for (int k = 0; k < n; k++) {
            text.append((char) x.print(grid, row, column, k));
        }
        return text.toString();
    }

    /** A GRID gets ROWS of these KEYS behind those that it has. */
    static void rows(GridMerger x, int grid, int... keys) {
        for (int key : keys) {
            x.row(grid, x.count(grid), key);
        }
    }

    /** KEYS of a GRID, in order. */
    static String keys(GridMerger x, int grid) {
        StringBuilder text = new StringBuilder();
        for (int i = 0; i < x.count(grid); i++) {
            text.append(i == 0 ? "" : " ").append(x.told(grid, i, 0, 2));
        }
        return text.toString();
    }
}
