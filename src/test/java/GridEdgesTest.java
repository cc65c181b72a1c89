import java.util.function.Consumer;

/** Promises 1, 2 and 4 to 9 at their edges; what is written is in TextEdgesTest, what is told in ValueEdgesTest. */
public final class GridEdgesTest {
    private static final Edges EDGES = new Edges("GridEdgesTest");
    private static final int MIN = Integer.MIN_VALUE;
    private static final int MAX = Integer.MAX_VALUE;

    public static void main(String[] args) {
        face();
        newObject();
        feed();
        feedFull();
        row();
        rowKeys();
        drop();
        move();
        note();
        fill();
        fillRefs();
        like();
        EDGES.finish(1, 2, 4, 5, 6, 7, 8, 9);
    }

    private static void edge(int promise, String sentence, Runnable body) {
        EDGES.edge(promise, sentence, body);
    }

    private static Consumer<Play> rowsOfBase(int... keys) {
        return x -> x.rows(0, keys);
    }

    private static void face() {
        edge(1, "NONE = -1, BAD = -2, STATE = -3, FULL = -4, LOST = -5, RING = -6, NO = Long.MIN_VALUE", () -> {
            int[] constants = {GridMerger.NONE, GridMerger.BAD, GridMerger.STATE, GridMerger.FULL, GridMerger.LOST,
                GridMerger.RING};
            for (int i = 0; i < constants.length; i++) {
                if (constants[i] != -1 - i) {
                    throw new Play.WrongAnswer("constant " + i + " is " + constants[i]);
                }
            }
            if (GridMerger.NO != Long.MIN_VALUE) {
                throw new Play.WrongAnswer("NO is " + GridMerger.NO);
            }
        });
        edge(1, "at most 512 calls: the 512th answers yet", () -> {
            Play x = Play.of(rowsOfBase(1));
            for (int i = 0; x.calls() < 512; i++) {
                x.note(0, 0, 0, i % 100).is(i == 0 ? 0 : (i - 1) % 100);
            }
        });
        edge(1, "an object is apart from others", () -> {
            Play x = new Play();
            Play y = Play.of(Edges::busy);
            x.count(0).is(0);
            x.count(7).is(0);
            x.taken(1, 0).is(0);
            x.put(0, 0, 0).is(-11);
            x.back().is(-3);
            y.count(0).is(3);
        });
    }

    private static void newObject() {
        edge(1, "all GRIDS are empty (ROWS: none at first)", () -> {
            for (int grid = 0; grid < 4; grid++) {
                Play x = new Play();
                x.count(grid).is(0);
                x.told(grid, 0, 0, 0).is(-2);
                x.print(grid, 0, 0, -1).is(-2);
                x.valueIs(grid, 0, 0, GridMerger.NO);
                x.film(0, grid, 0).is(0);
            }
        });
        edge(1, "no CLASHES, no CHANGES, THE TAPE is empty", () -> {
            for (int what = 4; what <= 7; what++) {
                new Play().count(what).is(0);
            }
            new Play().clash(0, 0).is(-12);
            new Play().settle(0, 0).is(-12);
            new Play().undo().is(-3);
        });
        edge(1, "there was no merge(), no IMAGE", () -> {
            new Play().take().is(-3);
            new Play().back().is(-3);
        });
        edge(1, "RULES: OWN at first, of FIGURE 0", () -> {
            for (int column = 0; column < 3; column++) {
                new Play().taken(column, 0).is(0);
                for (int kind = 1; kind <= 5; kind++) {
                    new Play().taken(column, kind).is(-13);
                }
                new Play().rule(column, 5, 99).is(0);
            }
        });
        edge(1, "SHEETS: missing at first", () -> {
            for (int sheet = 0; sheet < 4; sheet++) {
                new Play().put(sheet, 0, 0).is(-11);
                new Play().copy(sheet, 0, sheet, 0, 0).is(-11);
                new Play().tells(sheet, 0, 0, 0).is(-11);
            }
        });
        edge(1, "of nothing: what calls answer that may be asked of empty GRIDS", () -> {
            new Play().merge().is(0);
            new Play().exchanged().is(0);
            new Play().drawn(1, 20).is(0);
            new Play().chance(1, 8, 0).is(1);
            new Play().chance(1, 8, 1).is(1);
            new Play().image().is(0);
            new Play().like(0, 3).is(0);
        });
    }

    private static void feed() {
        edge(2, "n bytes (1 .. 5)", () -> {
            for (int n = 1; n <= 5; n++) {
                new Play().feed(n, 1, 2, 3, 4, 5).is(n);
            }
            for (int n : new int[] {0, 6, -1, MIN, MAX}) {
                Probe.refused(Edges::busy, -2, x -> x.feed(n, 49, 49, 49, 49, 49));
            }
        });
        edge(2, "all 0 .. 255", () -> {
            Play x = new Play();
            x.feed(5, 0, 0, 0, 0, 0).is(5);
            x.feed(5, 255, 255, 255, 255, 255).is(10);
        });
        edge(2, "also those that are not asked", () -> {
            for (int v : new int[] {-1, 256, MIN, MAX}) {
                for (int n = 1; n <= 5; n++) {
                    int asked = n;
                    Probe.refused(Edges::busy, -2, x -> x.feed(asked, v, 49, 49, 49, 49),
                            x -> x.feed(asked, 49, v, 49, 49, 49), x -> x.feed(asked, 49, 49, v, 49, 49),
                            x -> x.feed(asked, 49, 49, 49, v, 49), x -> x.feed(asked, 49, 49, 49, 49, v));
                }
            }
        });
        edge(2, "only n come, in order, behind THE TAPE", () -> {
            for (int n = 1; n <= 5; n++) {
                Play x = Play.of(rowsOfBase(1));
                x.feed(1, '9', '8', '8', '8', '8').is(1);
                x.feed(n, '1', '2', '3', '4', '5').is(1 + n);
                x.write(0, 0, 0).is(1);
                x.prints(0, 0, 0, "912345".substring(0, 1 + n));
            }
        });
    }

    private static Consumer<Play> tape(int size) {
        return x -> {
            Edges.busy(x);
            x.write(0, 0, 0);
            x.text("=1+2".substring(0, Math.min(4, size)) + " ".repeat(Math.max(0, size - 4)));
        };
    }

    private static void feedFull() {
        edge(2, "THE TAPE (40 bytes at most): as many as have room", () -> {
            for (int n = 1; n <= 5; n++) {
                Play.of(tape(40 - n)).feed(n, 32, 32, 32, 32, 32).is(40);
            }
        });
        edge(2, "FULL: they have no room; none of them comes", () -> {
            for (int n = 1; n <= 5; n++) {
                int fed = n;
                for (int size = 41 - n; size <= 40; size++) {
                    Probe.refused(tape(size), -4, x -> x.feed(fed, 49, 49, 49, 49, 49));
                }
            }
        });
        edge(2, "BAD is named ahead of FULL", () -> Probe.refused(tape(40), -2, x -> x.feed(6, 49, 49, 49, 49, 49),
                x -> x.feed(1, 49, 49, 49, 49, 256)));
        edge(2, "how many it has: from none again behind write()", () -> {
            Play x = Play.of(tape(40));
            x.write(0, 0, 0).is(2);
            x.feed(1, 49, 0, 0, 0, 0).is(1);
        });
    }

    private static void row() {
        edge(4, "at (0 .. how many)", () -> {
            for (int at = 0; at <= 3; at++) {
                Play x = Play.of(rowsOfBase(10, 20, 30));
                x.row(0, at, 5).is(4);
                x.told(0, at, 0, 2).is(5);
            }
            for (int at : new int[] {-1, 4, 7, MIN, MAX}) {
                Probe.refused(Edges::busy, -2, x -> x.row(0, at, 5));
            }
            new Play().row(2, 0, 5).is(1);
            new Play().row(2, 1, 5).is(-2);
        });
        edge(4, "GRID 0 .. 2", () -> {
            for (int grid = 0; grid <= 2; grid++) {
                new Play().row(grid, 0, 5).is(1).keysAre(grid, "5");
            }
            Probe.refused(Edges::busy, -2, x -> x.row(-1, 0, 5), x -> x.row(3, 0, 5), x -> x.row(4, 0, 5),
                    x -> x.row(MIN, 0, 5), x -> x.row(MAX, 0, 5));
        });
        edge(4, "the others keep their order", () -> {
            Play.of(rowsOfBase(10, 20, 30)).row(0, 0, 5).is(4).keysAre(0, "5 10 20 30");
            Play.of(rowsOfBase(10, 20, 30)).row(0, 1, 5).is(4).keysAre(0, "10 5 20 30");
            Play.of(rowsOfBase(10, 20, 30)).row(0, 3, 5).is(4).keysAre(0, "10 20 30 5");
        });
        edge(4, "CONTENT: EMPTY at first, NOTE: 0 at first, also where a ROW stood that went", () -> {
            Play x = Play.of(rowsOfBase(10));
            for (int column = 0; column < 3; column++) {
                x.write(0, 0, column, column == 1 ? "=#" : "7").is(column == 1 ? 2 : 1);
                x.note(0, 0, column, 9);
            }
            x.drop(0, 0);
            x.row(0, 0, 11).is(1);
            for (int column = 0; column < 3; column++) {
                x.told(0, 0, column, 0).is(0);
                x.told(0, 0, column, 1).is(0);
                x.told(0, 0, column, 3).is(0);
                x.valueIs(0, 0, column, 0);
            }
        });
        edge(4, "CELLS and NOTES stay with their ROWS", () -> {
            Play x = Play.of(rowsOfBase(10, 20));
            x.write(0, 1, 2, "7");
            x.note(0, 1, 2, 8).is(0);
            x.row(0, 0, 5).is(3);
            x.valueIs(0, 2, 2, 7).valueIs(0, 1, 2, 0);
            x.told(0, 2, 2, 1).is(8);
            x.told(0, 1, 2, 1).is(0);
        });
    }

    private static void rowKeys() {
        edge(4, "a KEY (1 .. 99)", () -> {
            new Play().row(0, 0, 1).is(1).keysAre(0, "1");
            new Play().row(0, 0, 99).is(1).keysAre(0, "99");
            Probe.refused(Edges::busy, -2, x -> x.row(0, 0, 0), x -> x.row(0, 0, 100), x -> x.row(0, 0, -1),
                    x -> x.row(0, 0, MIN), x -> x.row(0, 0, MAX));
        });
        edge(4, "STATE: the KEY is there (none twice in a GRID), wherever it stands", () -> {
            for (int key : new int[] {10, 20, 30}) {
                Probe.refused(Edges::busy, -3, x -> x.row(0, 0, key), x -> x.row(0, 3, key), x -> x.row(1, 1, key));
            }
        });
        edge(4, "a KEY of another GRID, or of a ROW that went, isn't there", () -> {
            Play x = Play.of(Edges::busy);
            x.row(0, 0, 40).is(4);
            x.row(1, 0, 40).is(4);
            x.drop(0, 1).is(10);
            x.row(0, 4, 10).is(-2);
            x.row(0, 3, 10).is(4);
        });
        edge(4, "ROWS (8 at most): FULL", () -> {
            for (int grid = 0; grid <= 2; grid++) {
                int full = grid;
                new Play().rows(grid, 1, 2, 3, 4, 5, 6, 7).row(grid, 7, 8).is(8);
                Probe.refused(x -> Edges.eightRows(x, full), -4, x -> x.row(full, 0, 9), x -> x.row(full, 8, 99));
            }
        });
        edge(4, "BAD is named ahead of STATE, STATE ahead of FULL", () -> {
            Consumer<Play> full = x -> Edges.eightRows(x, 1);
            Probe.refused(full, -2, x -> x.row(1, 9, 8), x -> x.row(3, 0, 8), x -> x.row(1, 0, 100));
            Probe.refused(full, -3, x -> x.row(1, 0, 1), x -> x.row(1, 8, 8));
        });
        edge(4, "FULL no more, when one went", () -> {
            Play x = Play.of(y -> Edges.eightRows(y, 1));
            x.drop(1, 7).is(8);
            x.row(1, 7, 9).is(8);
        });
    }

    private static void drop() {
        edge(5, "a ROW of GRID 0 .. 2", () -> {
            for (int grid = 0; grid <= 2; grid++) {
                new Play().rows(grid, 5, 6).drop(grid, 0).is(5).keysAre(grid, "6");
                new Play().rows(grid, 5, 6).drop(grid, 1).is(6).keysAre(grid, "5");
            }
            Probe.refused(Edges::busy, -2, x -> x.drop(-1, 0), x -> x.drop(3, 0), x -> x.drop(4, 0),
                    x -> x.drop(MIN, 0), x -> x.drop(MAX, 0));
        });
        edge(5, "BAD: no such ROW", () -> {
            Probe.refused(Edges::busy, -2, x -> x.drop(0, -1), x -> x.drop(0, 3), x -> x.drop(2, 8),
                    x -> x.drop(0, MIN), x -> x.drop(0, MAX));
            new Play().drop(0, 0).is(-2);
        });
        edge(5, "the last of 8, the first of 8, the only one", () -> {
            Play.of(x -> Edges.eightRows(x, 2)).drop(2, 7).is(8).keysAre(2, "1 2 3 4 5 6 7");
            Play.of(x -> Edges.eightRows(x, 2)).drop(2, 0).is(1).keysAre(2, "2 3 4 5 6 7 8");
            new Play().rows(2, 5).drop(2, 0).is(5).count(2).is(0);
        });
        edge(5, "a REF to its KEY is LOST till such a ROW comes again", () -> {
            Play x = Play.of(rowsOfBase(10, 20));
            x.write(0, 0, 0, "=$b2");
            x.write(0, 1, 1, "4");
            x.drop(0, 1).is(20);
            x.told(0, 0, 0, 3).is(-5);
            x.row(0, 0, 20).is(2);
            x.prints(0, 1, 0, "=$b1").valueIs(0, 1, 0, 0);
        });
    }

    private static void move() {
        edge(6, "at place to (others keep their order)", () -> {
            String[][] due = {{"1 2 3", "2 1 3", "2 3 1"}, {"2 1 3", "1 2 3", "1 3 2"}, {"3 1 2", "1 3 2", "1 2 3"}};
            for (int row = 0; row < 3; row++) {
                for (int to = 0; to < 3; to++) {
                    Play.of(rowsOfBase(1, 2, 3)).move(0, row, to).is(row + 1).keysAre(0, due[row][to]);
                }
            }
        });
        edge(6, "from the first of 8 to the last, and back", () -> {
            Play x = Play.of(y -> Edges.eightRows(y, 1));
            x.write(1, 0, 2, "7");
            x.note(1, 0, 0, 6);
            x.move(1, 0, 7).is(1).keysAre(1, "2 3 4 5 6 7 8 1").valueIs(1, 7, 2, 7);
            x.told(1, 7, 0, 1).is(6);
            x.move(1, 7, 0).is(1).keysAre(1, "1 2 3 4 5 6 7 8").valueIs(1, 0, 2, 7);
        });
        edge(6, "to its own place: a CHANGE yet", () -> {
            Play x = Play.of(rowsOfBase(1));
            x.merge().is(0);
            x.move(0, 0, 0).is(1);
            x.count(6).is(2);
            x.take().is(-3);
        });
        edge(6, "GRID 0 .. 2", () -> {
            for (int grid = 0; grid <= 2; grid++) {
                new Play().rows(grid, 5, 6).move(grid, 1, 0).is(6).keysAre(grid, "6 5");
            }
            Probe.refused(Edges::busy, -2, x -> x.move(-1, 0, 0), x -> x.move(3, 0, 0), x -> x.move(4, 0, 0),
                    x -> x.move(MIN, 0, 0), x -> x.move(MAX, 0, 0));
        });
        edge(6, "BAD: no such ROW, no such place", () -> {
            Probe.refused(Edges::busy, -2, x -> x.move(0, -1, 0), x -> x.move(0, 3, 0), x -> x.move(0, MIN, 0),
                    x -> x.move(0, MAX, 0), x -> x.move(0, 0, -1), x -> x.move(0, 0, 3), x -> x.move(0, 0, MIN),
                    x -> x.move(0, 0, MAX), x -> x.move(0, 3, 3));
            new Play().move(0, 0, 0).is(-2);
        });
    }

    private static void note() {
        edge(7, "v: a NOTE (0 .. 99)", () -> {
            Play x = Play.of(rowsOfBase(1));
            x.note(0, 0, 0, 99).is(0);
            x.note(0, 0, 0, 0).is(99);
            x.note(0, 0, 0, 1).is(0);
            x.told(0, 0, 0, 1).is(1);
            Probe.refused(Edges::busy, -2, y -> y.note(0, 0, 0, -1), y -> y.note(0, 0, 0, 100),
                    y -> y.note(0, 0, 0, MIN), y -> y.note(0, 0, 0, MAX));
        });
        edge(7, "of its CELL alone, whose CONTENT stays", () -> {
            Play x = Play.of(Edges::busy);
            x.note(0, 1, 0, 44).is(0);
            x.prints(0, 1, 0, "=a1*2");
            x.told(0, 1, 1, 1).is(7);
            x.told(0, 0, 0, 1).is(0);
            x.told(1, 1, 0, 1).is(0);
        });
        edge(7, "to what it is: a CHANGE yet", () -> {
            Play x = Play.of(rowsOfBase(1));
            x.note(0, 0, 0, 0).is(0);
            x.count(6).is(2);
        });
        edge(7, "GRID 0 .. 2, a ROW that is there, columns 0 .. 2", () -> {
            for (int grid = 0; grid <= 2; grid++) {
                for (int column = 0; column <= 2; column++) {
                    Play x = new Play().rows(grid, 5, 6);
                    x.note(grid, 1, column, 3).is(0);
                    x.told(grid, 1, column, 1).is(3);
                }
            }
            Probe.refused(Edges::busy, -2, x -> x.note(-1, 0, 0, 1), x -> x.note(3, 0, 0, 1), x -> x.note(4, 0, 0, 1),
                    x -> x.note(0, -1, 0, 1), x -> x.note(0, 3, 0, 1), x -> x.note(0, 0, -1, 1),
                    x -> x.note(0, 0, 3, 1), x -> x.note(MAX, 0, 0, 1), x -> x.note(0, MAX, 0, 1),
                    x -> x.note(0, 0, MAX, 1), x -> x.note(MIN, 0, 0, 1), x -> x.note(0, MIN, 0, 1),
                    x -> x.note(0, 0, MIN, 1));
            new Play().note(0, 0, 0, 1).is(-2);
        });
    }

    private static void fill() {
        edge(8, "n (1 .. 7)", () -> {
            for (int n = 1; n <= 7; n++) {
                Play x = Play.of(y -> Edges.eightRows(y, 0));
                x.write(0, 0, 1, "6");
                x.fill(0, 0, 1, n).is(n);
                for (int row = 1; row <= 7; row++) {
                    x.told(0, row, 1, 0).is(row <= n ? 1 : 0);
                }
            }
            Probe.refused(Edges::busy, -2, x -> x.fill(0, 0, 0, 0), x -> x.fill(0, 0, 0, 8), x -> x.fill(0, 0, 0, -1),
                    x -> x.fill(0, 0, 0, MIN), x -> x.fill(0, 0, 0, MAX));
        });
        edge(8, "as many as there are", () -> {
            for (int row = 0; row <= 2; row++) {
                for (int n = 1; n <= 7; n++) {
                    Play x = Play.of(rowsOfBase(1, 2, 3));
                    x.fill(0, row, 0, n).is(Math.min(n, 2 - row));
                }
            }
        });
        edge(8, "from the last ROW none is FILLED: a CHANGE yet", () -> {
            Play x = Play.of(Edges::busy);
            x.fill(0, 2, 0, 7).is(0);
            x.count(4).is(0);
            Probe.stays(Edges::busy, y -> y.fill(0, 2, 0, 7), Probe.CELLS, Probe.RULES, Probe.TAPE, Probe.SHEETS);
        });
        edge(8, "the CELLS get its CONTENT: also EMPTY; their NOTES, and other columns, stay", () -> {
            Play x = Play.of(rowsOfBase(1, 2, 3));
            x.write(0, 1, 1, "=#");
            x.write(0, 2, 1, "5");
            x.write(0, 1, 0, "3");
            x.note(0, 1, 1, 9);
            x.note(0, 0, 1, 4);
            x.fill(0, 0, 1, 2).is(2);
            x.told(0, 1, 1, 0).is(0);
            x.told(0, 2, 1, 0).is(0);
            x.valueIs(0, 1, 1, 0).valueIs(0, 1, 0, 3);
            x.told(0, 1, 1, 1).is(9);
            x.told(0, 2, 1, 1).is(0);
        });
        edge(8, "GRID 0 .. 2, a ROW that is there, columns 0 .. 2", () -> {
            for (int grid = 0; grid <= 2; grid++) {
                for (int column = 0; column <= 2; column++) {
                    Play x = new Play().rows(grid, 5, 6);
                    x.write(grid, 0, column, "4");
                    x.fill(grid, 0, column, 1).is(1);
                    x.valueIs(grid, 1, column, 4);
                }
            }
            Probe.refused(Edges::busy, -2, x -> x.fill(-1, 0, 0, 1), x -> x.fill(3, 0, 0, 1), x -> x.fill(4, 0, 0, 1),
                    x -> x.fill(0, -1, 0, 1), x -> x.fill(0, 3, 0, 1), x -> x.fill(0, 0, -1, 1),
                    x -> x.fill(0, 0, 3, 1), x -> x.fill(MAX, 0, 0, 1), x -> x.fill(0, MAX, 0, 1),
                    x -> x.fill(0, 0, MAX, 1), x -> x.fill(MIN, 0, 0, 1), x -> x.fill(0, MIN, 0, 1),
                    x -> x.fill(0, 0, MIN, 1));
            new Play().fill(0, 0, 0, 1).is(-2);
        });
    }

    private static void fillRefs() {
        edge(8, "a REF that doesn't STAY is to the ROW as many places below its own; to no KEY, if there is none", () -> {
            Play x = Play.of(y -> Edges.eightRows(y, 0));
            x.write(0, 0, 0, "=b1+b2+b7+b8");
            x.fill(0, 0, 0, 7).is(7);
            String[] due = {"=b1+b2+b7+b8", "=b2+b3+b8+#", "=b3+b4+#+#", "=b4+b5+#+#", "=b5+b6+#+#", "=b6+b7+#+#",
                "=b7+b8+#+#", "=b8+#+#+#"};
            for (int row = 0; row < 8; row++) {
                x.prints(0, row, 0, due[row]);
            }
        });
        edge(8, "one that STAYS is as it was, also if it is LOST", () -> {
            Play x = Play.of(rowsOfBase(1, 2, 3));
            x.write(0, 0, 0, "=$b3+$b2");
            x.drop(0, 2).is(3);
            x.fill(0, 0, 0, 1).is(1);
            x.prints(0, 1, 0, "=#+$b2");
            x.row(0, 2, 3).is(3);
            x.prints(0, 1, 0, "=$b3+$b2");
        });
        edge(8, "to no KEY, if it is LOST: no ROW that comes later finds it", () -> {
            Play x = Play.of(rowsOfBase(1, 2, 3));
            x.write(0, 0, 0, "=b3+#");
            x.drop(0, 2).is(3);
            x.fill(0, 0, 0, 1).is(1);
            x.row(0, 2, 3).is(3);
            x.prints(0, 0, 0, "=b3+#").prints(0, 1, 0, "=#+#");
        });
        edge(8, "to no KEY, if there is no such ROW: no ROW that comes later finds it", () -> {
            Play x = Play.of(rowsOfBase(1, 2));
            x.write(0, 0, 0, "=b2");
            x.fill(0, 0, 0, 1).is(1);
            x.row(0, 2, 3).is(3);
            x.prints(0, 1, 0, "=#");
            x.told(0, 1, 0, 3).is(-5);
        });
        edge(8, "REFS of RANGES too; the CELL itself keeps its own", () -> {
            Play x = Play.of(rowsOfBase(1, 2, 3));
            x.write(0, 0, 2, "=most(a1:$b3)-many($a1:b3)");
            x.fill(0, 0, 2, 2).is(2);
            x.prints(0, 0, 2, "=most(a1:$b3)-many($a1:b3)").prints(0, 1, 2, "=most(a2:$b3)-many($a1:#)");
            x.prints(0, 2, 2, "=most(a3:$b3)-many($a1:#)");
        });
    }

    private static void like() {
        edge(9, "GRID 0 .. 2 as another one (0 .. 3)", () -> {
            for (int grid = 0; grid <= 2; grid++) {
                for (int other = 0; other <= 3; other++) {
                    if (grid != other) {
                        Play x = Play.of(Edges::busy);
                        String due = x.keys(other);
                        x.like(grid, other).is(x.count(other).got);
                        x.keysAre(grid, due);
                    }
                }
            }
            Probe.refused(Edges::busy, -2, x -> x.like(-1, 0), x -> x.like(3, 0), x -> x.like(4, 0),
                    x -> x.like(0, -1), x -> x.like(0, 4), x -> x.like(MAX, 0), x -> x.like(0, MAX),
                    x -> x.like(MIN, 0), x -> x.like(0, MIN));
        });
        edge(9, "not itself", () -> Probe.refused(Edges::busy, -2, x -> x.like(0, 0), x -> x.like(1, 1),
                x -> x.like(2, 2), x -> x.like(3, 3)));
        edge(9, "as an empty one: none; as a full one: 8", () -> {
            Play x = Play.of(y -> Edges.eightRows(y, 1));
            x.like(0, 1).is(8);
            x.row(0, 0, 9).is(-4);
            x.like(1, 2).is(0);
            x.count(1).is(0);
            x.told(1, 0, 0, 0).is(-2);
        });
        edge(9, "CONTENTS, NOTES and KEYS; apart from each other then", () -> {
            Play x = Play.of(Edges::busy);
            x.like(2, 0).is(3);
            x.keysAre(2, "10 20 30").prints(2, 1, 0, "=a1*2").valueIs(2, 1, 0, 10);
            x.told(2, 1, 1, 1).is(7);
            x.write(2, 0, 0, "1");
            x.note(2, 1, 1, 1);
            x.drop(2, 2);
            x.valueIs(0, 1, 0, 10).count(0).is(3).told(0, 1, 1, 1).is(7);
        });
    }
}
