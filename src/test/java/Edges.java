/** Tests of sentences that name a boundary case: each names its promise and stands by itself. */
final class Edges {
    private static final int PROMISES = 30;

    private final String test;
    private final int[] sentences = new int[PROMISES + 1];
    private int all;
    private int wrong;

    Edges(String test) {
        this.test = test;
    }

    void edge(int promise, String sentence, Runnable body) {
        all++;
        sentences[promise]++;
        try {
            body.run();
        } catch (RuntimeException | StackOverflowError e) {
            wrong++;
            System.out.println(test + ": Promise " + promise + ", " + sentence + ": " + e);
        }
    }

    /** Fails, if a sentence doesn't hold, or one of these promises has none. */
    void finish(int... promises) {
        for (int promise : promises) {
            if (sentences[promise] == 0) {
                wrong++;
                System.out.println(test + ": Promise " + promise + " has no test");
            }
        }
        System.out.println(test + ": " + all + " sentences tested, " + wrong + " faults");
        if (wrong != 0) {
            System.exit(1);
        }
    }

    /** An object in the midst of its work: something of each thing that a call could spoil. */
    static void busy(Play x) {
        x.rows(0, 10, 20, 30);
        x.write(0, 0, 0, "5");
        x.write(0, 1, 0, "=a1*2");
        x.note(0, 1, 1, 7);
        x.like(1, 0);
        x.like(2, 0);
        x.rule(1, 3, 8);
        x.merge();
        x.image();
        x.write(1, 0, 0, "6");
        x.write(2, 0, 0, "8");
        x.note(1, 1, 1, 8);
        x.note(2, 1, 1, 9);
        x.write(1, 2, 2, "=#");
        x.drop(2, 2);
        x.row(2, 0, 40);
        x.rule(0, 2, 7);
        x.rule(1, 4, 50);
        x.rule(2, 5, 3);
        x.merge().is(3);
        x.settle(1, 0);
        x.film(0, 3, 0);
        x.sheet(1, 0, 3);
        x.put(1, 0, 5);
        x.put(1, 1, 10);
        x.sheet(3, 1, 40);
        x.put(3, 39, 1);
        x.text("=1+2");
    }

    /** MERGED has 8 ROWS, and one more would be in it now. */
    static void crowded(Play x) {
        x.rows(1, 1, 2, 3, 4, 5);
        x.rows(2, 6, 7, 8);
        x.write(1, 0, 0, "5");
        x.merge();
        x.image();
        x.film(0, 3, 0);
        x.row(2, 0, 9);
    }

    /** A GRID of 8 ROWS, of KEYS 1 to 8. */
    static void eightRows(Play x, int grid) {
        x.rows(grid, 1, 2, 3, 4, 5, 6, 7, 8);
    }
}
