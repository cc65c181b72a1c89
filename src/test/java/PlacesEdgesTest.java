import java.util.function.Consumer;

/**
 * "of that KEY", in the Terms of merging: of a KEY whose ROWS stand at each place of each GRID. KEYS 8 and 9 stand about
 * it, with CONTENTS and NOTES that are the same in all GRIDS and unlike its own: so one read at a wrong place is seen.
 * MERGED has it where MINE has it, or a place below (KEY 7 came ahead of it in THEIRS), or above (KEY 6, ahead of it in
 * MINE, isn't in MERGED).
 */
public final class PlacesEdgesTest {
    private static final Edges EDGES = new Edges("PlacesEdgesTest");
    private static final int[][] ORDERS = {{5, 8, 9}, {5, 9, 8}, {8, 5, 9}, {9, 5, 8}, {8, 9, 5}, {9, 8, 5}};
    private static final int COLUMN = 1, FIGURE = 3;

    /**
     * CONTENTS of the CELL in BASE, MINE, THEIRS (null: the GRID hasn't the KEY); what a RULE of this KIND makes of them,
     * how many CLASHES that is, and how many CELLS are otherwise, if MINE and THEIRS are EXCHANGED.
     */
    private record Case(String base, String mine, String theirs, int kind, String due, int clashes, int exchanged) { }

    private static final Case[] CASES = {
        new Case("1", "2", "2", 1, "2", 0, 0), new Case("1", "2", "1", 1, "2", 0, 0),
        new Case("1", "1", "3", 0, "3", 0, 0), new Case("", "", "3", 0, "3", 0, 0),
        new Case("", "2", "", 1, "2", 0, 0), new Case(null, "", "3", 0, "3", 0, 0),
        new Case("1", "2", "3", 0, "2", 1, 1), new Case("1", "2", "3", 1, "3", 1, 1),
        new Case("1", "2", "3", 2, "3", 1, 0), new Case("1", "3", "2", 2, "3", 1, 0),
        new Case("1", "=2", "3", 2, "=2", 1, 1), new Case("1", "=2", "3", 1, "3", 1, 1),
        new Case("1", "2", "3", 3, "4", 0, 0), new Case("=1", "2", "3", 3, "3", 1, 0),
        new Case("", "2", "3", 3, "5", 0, 0), new Case(null, "2", "3", 3, "5", 0, 0),
        new Case("1", "2", "3", 4, "3", 0, 0), new Case("1", "2", "3", 5, "1", 1, 0),
        new Case("", "2", "3", 5, "", 1, 0), new Case(null, "2", "3", 5, "", 1, 0),
    };

    public static void main(String[] args) {
        edge(15, "CONTENT: of that KEY in each GRID, whatever the RULE", () -> ofEachCase(PlacesEdgesTest::content));
        edge(15, "NOTE: of that KEY in each GRID", () -> {
            note(1, 2, 2, 2, 0);
            note(1, 2, 1, 2, 0);
            note(1, 1, 2, 2, 0);
            note(1, 2, 3, 3, 1);
            note(1, 3, 2, 3, 1);
            note(4, 0, 3, 3, 1);
        });
        edge(15, "who has the KEY alone tells that ROW; CHANGED: against BASE's of that KEY", () -> {
            alone("1", "1", null, 0);
            alone("1", null, "1", 0);
            alone("1", "6", null, 1);
            alone("1", null, "6", 1);
        });
        edge(17, "that GRID's CONTENT (NOTE) of the KEY is MERGED's", () -> {
            settled(0, "2", 20);
            settled(1, "3", 30);
            settled(2, "1", 10);
        });
        edge(17, "by a CLASH 2 it is as there", () -> {
            settledByBase("6", null);
            settledByBase(null, "6");
        });
        edge(20, "by KEY", () -> ofEachCase(c -> everywhere(c, x -> x.exchanged().is(c.exchanged))));
        edge(21, "how many CLASHES then", () -> ofEachCase(c -> everywhere(c, x -> x.drawn(1, 0).is(c.clashes))));
        edge(23, "RULES by which a merge() makes that column so", () -> ofEachCase(PlacesEdgesTest::toldByItsRule));
        EDGES.finish(15, 17, 20, 21, 23);
    }

    private static void edge(int promise, String sentence, Runnable body) {
        EDGES.edge(promise, sentence, body);
    }

    private static void ofEachCase(Consumer<Case> body) {
        for (Case c : CASES) {
            body.accept(c);
        }
    }

    private static void rows(Play x, int grid, int[] order, String text, int note) {
        x.rows(grid, order);
        for (int place = 2; place >= 0; place--) {
            int key = order[place];
            x.write(grid, place, COLUMN, key != 5 ? key + "00" : text == null ? "" : text);
            x.note(grid, place, COLUMN, key != 5 ? 10 * key : note);
            if (key == 5 && text == null) {
                x.drop(grid, place).is(5);
            }
        }
    }

    private static void everywhere(Case c, Consumer<Play> body) {
        everywhere(c, 0, 0, 0, body);
    }

    private static void everywhere(Case c, int noteOfBase, int noteOfMine, int noteOfTheirs, Consumer<Play> body) {
        for (int[] ofBase : ORDERS) {
            for (int[] ofMine : ORDERS) {
                for (int[] ofTheirs : ORDERS) {
                    for (int ahead = 5; ahead <= 7; ahead++) {
                        Play x = new Play();
                        rows(x, 0, ofBase, c.base, noteOfBase);
                        rows(x, 1, ofMine, c.mine, noteOfMine);
                        rows(x, 2, ofTheirs, c.theirs, noteOfTheirs);
                        rowAhead(x, ahead);
                        x.rule(COLUMN, c.kind, FIGURE);
                        body.accept(x);
                    }
                }
            }
        }
    }

    private static void rowAhead(Play x, int key) {
        if (key == 6) {
            x.row(0, 0, 6);
            x.row(1, 0, 6);
        } else if (key == 7) {
            x.row(2, 0, 7);
        }
    }

    /** The CELL is so in MERGED, those about it are as they are everywhere. */
    private static void mergedIs(Play x, String due, int note) {
        int found = 0;
        int rows = x.count(3).got;
        for (int place = 0; place < rows; place++) {
            int key = x.told(3, place, COLUMN, 2).got;
            if (key == 7) {
                x.told(3, place, COLUMN, 0).is(0);
                x.told(3, place, COLUMN, 1).is(0);
            } else {
                found++;
                x.prints(3, place, COLUMN, key == 5 ? due : key + "00");
                x.told(3, place, COLUMN, 1).is(key == 5 ? note : 10 * key);
            }
        }
        if (found != 3) {
            throw x.wrong("due are KEYS 5, 8 and 9");
        }
    }

    private static void content(Case c) {
        everywhere(c, x -> {
            x.merge().is(c.clashes);
            mergedIs(x, c.due, 0);
            if (c.clashes == 1) {
                x.clashIs(0, 1, 5, COLUMN);
            }
        });
    }

    private static void note(int base, int mine, int theirs, int due, int clashes) {
        everywhere(new Case("7", "7", "7", 0, "7", 0, 0), base, mine, theirs, x -> {
            x.merge().is(clashes);
            mergedIs(x, "7", due);
            if (clashes == 1) {
                x.clashIs(0, 3, 5, COLUMN);
            }
        });
    }

    private static void alone(String base, String mine, String theirs, int clashes) {
        everywhere(new Case(base, mine, theirs, 0, "6", clashes, 0), x -> {
            x.merge().is(clashes);
            if (clashes == 1) {
                x.clashIs(0, 2, 5, -1);
                mergedIs(x, "6", 0);
            } else if (x.keys(3).contains("5")) {
                throw x.wrong("due is no KEY 5");
            }
        });
    }

    private static void settled(int by, String due, int note) {
        everywhere(new Case("1", "2", "3", 1, "3", 1, 1), 10, 20, 30, x -> {
            x.merge().is(2);
            mergedIs(x, "3", 30);
            x.settle(0, by).is(1);
            mergedIs(x, due, 30);
            x.settle(1, by).is(0);
            mergedIs(x, due, note);
        });
    }

    private static void settledByBase(String mine, String theirs) {
        everywhere(new Case("1", mine, theirs, 0, "6", 1, 0), 10, 20, 20, x -> {
            x.merge().is(1);
            mergedIs(x, "6", 20);
            x.settle(0, 2).is(0);
            mergedIs(x, "1", 10);
        });
    }

    private static void toldByItsRule(Case c) {
        everywhere(c, x -> {
            x.merge().is(c.clashes);
            x.film(0, 3, COLUMN).is(x.count(3).got);
            int bits = x.tells(0, 0, COLUMN, 1).got;
            if (bits < 0 || (bits >> c.kind) % 2 == 0) {
                throw x.wrong("due is bit " + c.kind);
            }
        });
    }
}
