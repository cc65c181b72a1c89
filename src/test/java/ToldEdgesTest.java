/** Promises 23 to 27 at their edges. */
public final class ToldEdgesTest {
    private static final Edges EDGES = new Edges("ToldEdgesTest");
    private static final int MIN = Integer.MIN_VALUE;
    private static final int MAX = Integer.MAX_VALUE;

    public static void main(String[] args) {
        tellsRefusals();
        tellsFirst();
        tellsSizes();
        tellsRules();
        tellsFull();
        film();
        filmRefusals();
        image();
        backRefusals();
        backKeeps();
        backEnds();
        count();
        EDGES.finish(23, 24, 25, 26, 27);
    }

    private static void edge(int promise, String sentence, Runnable body) {
        EDGES.edge(promise, sentence, body);
    }

    /** A SHEET becomes these numbers. */
    private static Play numbers(Play x, int sheet, int sort, int... numbers) {
        x.sheet(sheet, sort, numbers.length).is(1);
        for (int i = 0; i < numbers.length; i++) {
            x.put(sheet, i, numbers[i]).is(1);
        }
        return x;
    }

    private static void tellsRefusals() {
        edge(23, "BAD: SHEET, column, what, grid (by what 0)", () -> {
            for (int v : new int[] {-1, 4, MIN, MAX}) {
                Probe.refused(Edges::busy, -2, x -> x.tells(v, 0, 0, 0), x -> x.tells(v, 0, 0, 1), x -> x.tells(0, v, 0, 0));
            }
            for (int v : new int[] {-1, 3, MIN, MAX}) {
                Probe.refused(Edges::busy, -2, x -> x.tells(0, 0, v, 0), x -> x.tells(0, 0, v, 1));
            }
            for (int v : new int[] {-1, 2, MIN, MAX}) {
                Probe.refused(Edges::busy, -2, x -> x.tells(0, 0, 0, v));
            }
        });
        edge(23, "grid doesn't matter (by what 1)", () -> {
            for (int grid : new int[] {-1, 0, 3, 4, MIN, MAX}) {
                Play.of(Edges::busy).tells(0, grid, 0, 1).is(2 | 4);
            }
        });
        edge(23, "-11: it is missing; behind BAD of the figures", () -> {
            Probe.refused(Edges::busy, -11, x -> x.tells(2, 0, 0, 0), x -> x.tells(2, 0, 2, 1), x -> x.tells(2, 9, 0, 1));
            Probe.refused(Edges::busy, -2, x -> x.tells(2, 4, 0, 0), x -> x.tells(2, 0, 3, 0), x -> x.tells(2, 0, 0, 2));
            Probe.refused(Edges::crowded, -11, x -> x.tells(2, 0, 0, 1));
        });
        edge(23, "BAD: it tells more than 8 (8 numbers at most)", () -> {
            for (int sort = 0; sort <= 1; sort++) {
                Play x = new Play();
                x.sheet(0, sort, 8).is(1);
                x.tells(0, 0, 0, 0).is(0);
                x.tells(0, 0, 0, 1).is(0);
                x.sheet(0, sort, 9).is(1);
                x.tells(0, 0, 0, 0).is(-2);
                x.tells(0, 0, 0, 1).is(-2);
            }
            Probe.refused(Edges::busy, -2, x -> x.tells(3, 0, 0, 0), x -> x.tells(3, 0, 0, 1));
            Probe.refused(x -> {
                Edges.crowded(x);
                x.sheet(0, 0, 9);
            }, -2, x -> x.tells(0, 0, 0, 1));
        });
        edge(23, "all stays", () -> Probe.stays(Edges::busy, x -> {
            x.tells(0, 3, 0, 0).is(-1);
            x.tells(0, 3, 0, 1).is(2 | 4);
        }, Probe.values()));
    }

    private static void tellsFirst() {
        edge(23, "the first that is otherwise; NONE", () -> {
            for (int sort = 0; sort <= 1; sort++) {
                for (int otherwise = 0; otherwise <= 8; otherwise++) {
                    Play x = new Play();
                    Edges.eightRows(x, 1);
                    x.sheet(0, sort, 8);
                    for (int row = 0; row < 8; row++) {
                        x.write(1, row, 2, "" + (row - 3));
                        x.put(0, row, row == otherwise || row == otherwise + 2 ? 99 : row - 3);
                    }
                    x.tells(0, 1, 2, 0).is(otherwise == 8 ? -1 : otherwise);
                }
            }
        });
        edge(23, "of each GRID and column", () -> {
            for (int grid = 0; grid <= 3; grid++) {
                for (int column = 0; column <= 2; column++) {
                    Play x = new Play().rows(1, 5, 6);
                    x.write(1, 1, column, "7");
                    x.merge().is(0);
                    if (grid % 2 == 0) {
                        x.like(grid, 1).is(2);
                    }
                    numbers(x, 0, 1, 0, 7).tells(0, grid, column, 0).is(-1);
                    x.tells(0, grid, (column + 1) % 3, 0).is(1);
                }
            }
        });
        edge(23, "WRONG ones are otherwise, whatever the number", () -> {
            Play x = new Play().rows(0, 5, 6);
            x.write(0, 1, 0, "=#");
            x.write(0, 1, 1, "=b2");
            numbers(x, 0, 1, 0, 0).tells(0, 0, 0, 0).is(1);
            x.tells(0, 0, 1, 0).is(1);
            x.tells(0, 0, 2, 0).is(-1);
        });
        edge(23, "VALUES, not CONTENTS; EMPTY is 0; a short is what it is", () -> {
            Play x = new Play().rows(0, 5, 6, 7);
            x.write(0, 0, 0, "=32767");
            x.write(0, 1, 0, "=-32767-1");
            numbers(x, 0, 0, 32767, 32768, 0).tells(0, 0, 0, 0).is(-1);
            numbers(x, 0, 1, 32767, 32768, 0).tells(0, 0, 0, 0).is(1);
            x.write(0, 1, 0, "32768");
            x.tells(0, 0, 0, 0).is(-1);
            x.write(0, 0, 0, "=65536*32768");
            x.put(0, 0, MIN);
            x.tells(0, 0, 0, 0).is(-1);
        });
    }

    private static void tellsSizes() {
        edge(23, "those too many or too few are otherwise", () -> {
            for (int rows = 0; rows <= 8; rows++) {
                for (int size = 0; size <= 8; size++) {
                    Play x = new Play();
                    for (int i = 0; i < rows; i++) {
                        x.row(2, i, i + 1);
                    }
                    x.sheet(1, 1, size);
                    x.tells(1, 2, 0, 0).is(rows == size ? -1 : Math.min(rows, size));
                }
            }
        });
        edge(23, "one that is otherwise is ahead of those too many", () -> {
            Play x = new Play().rows(0, 5, 6, 7);
            numbers(x, 0, 1, 0, 1).tells(0, 0, 0, 0).is(1);
            numbers(x, 0, 1, 0, 0, 0, 1).tells(0, 0, 0, 0).is(3);
        });
    }

    private static void tellsRules() {
        edge(23, "RULES (bits) by which a merge() makes that column so: none, one, several, all 6", () -> {
            for (int column = 0; column <= 2; column++) {
                Play x = new Play();
                for (int grid = 0; grid < 3; grid++) {
                    x.rows(grid, 5);
                    x.write(grid, 0, column, "" + new int[] {1, 4, 3}[grid]);
                }
                x.rule(column, 5, 5);
                int[] values = {4, 3, 6, 5, 1, 7};
                int[] bits = {1 | 4, 2, 8, 16, 32, 0};
                for (int i = 0; i < values.length; i++) {
                    numbers(x, 3, i % 2, values[i]).tells(3, 0, column, 1).is(bits[i]);
                }
                numbers(x, 3, 0, 0).tells(3, 0, (column + 1) % 3, 1).is(63);
            }
        });
        edge(23, "same FIGURE", () -> {
            Play x = new Play().rows(1, 5).rows(2, 5);
            x.write(1, 0, 0, "50");
            x.write(2, 0, 0, "51");
            for (int figure : new int[] {1, 49, 99}) {
                x.rule(0, 0, figure);
                numbers(x, 0, 1, figure).tells(0, 0, 0, 1).is(16);
            }
        });
        edge(23, "in place of the column's: the others by their own", () -> {
            Play x = new Play().rows(1, 5).rows(2, 5);
            x.write(1, 0, 0, "2");
            x.write(2, 0, 0, "3");
            x.write(1, 0, 1, "=a1");
            x.rule(0, 3, 0);
            numbers(x, 0, 1, 5).tells(0, 0, 1, 1).is(63);
            x.tells(0, 0, 0, 1).is(8);
            x.rule(0, 1, 0);
            x.tells(0, 0, 1, 1).is(0);
        });
        edge(23, "WRONG ones, and those too many or too few, are by none", () -> {
            Play x = new Play().rows(1, 5).rows(2, 5);
            x.sheet(0, 1, 1);
            x.tells(0, 0, 0, 1).is(63);
            x.write(1, 0, 0, "=#");
            x.tells(0, 0, 0, 1).is(0);
            x.tells(0, 0, 1, 1).is(63);
            x.sheet(0, 1, 2);
            x.tells(0, 0, 1, 1).is(0);
            x.sheet(0, 1, 0);
            x.tells(0, 0, 1, 1).is(0);
            new Play().sheet(0, 1, 0).is(1).tells(0, 0, 1, 1).is(63);
        });
        edge(23, "WRONG by some RULES, not by others", () -> {
            Play x = new Play().rows(1, 5).rows(2, 5);
            x.write(1, 0, 0, "=#");
            x.write(2, 0, 0, "0");
            x.sheet(0, 1, 1);
            x.tells(0, 0, 0, 1).is(2 | 32);
        });
    }

    private static void tellsFull() {
        edge(23, "FULL (of RULES)", () -> {
            Probe.refused(Edges::crowded, -4, x -> x.tells(0, 0, 0, 1), x -> x.tells(0, 9, 2, 1));
            Play.of(Edges::crowded).tells(0, 3, 0, 0).is(-1);
            Play.of(Edges::crowded).tells(0, 1, 0, 0).is(0);
        });
    }

    private static void film() {
        edge(24, "VALUES of a column of a GRID: how many, 0 .. 8", () -> {
            for (int rows = 0; rows <= 8; rows++) {
                Play x = new Play();
                for (int i = 0; i < rows; i++) {
                    x.row(2, i, i + 1);
                    x.write(2, i, 1, "" + (i + 7));
                }
                x.film(0, 2, 1).is(rows);
                x.tells(0, 2, 1, 0).is(-1);
                x.put(0, rows, 0).is(-12);
            }
        });
        edge(24, "of each SHEET, GRID and column", () -> {
            for (int i = 0; i < 48; i++) {
                Play x = Play.of(Edges::busy);
                int rows = x.count(i / 3 % 4).got;
                x.film(i / 12, i / 3 % 4, i % 3).is(rows);
                boolean isWrong = i / 3 % 4 % 2 == 1 && i % 3 == 2;
                x.tells(i / 12, i / 3 % 4, i % 3, 0).is(isWrong ? rows - 1 : -1);
            }
        });
        edge(24, "ints; 0: WRONG", () -> {
            Play x = new Play().rows(0, 5, 6, 7, 8);
            x.write(0, 0, 0, "=65536*32768");
            x.write(0, 1, 0, "=#");
            x.write(0, 2, 0, "=a3");
            x.write(0, 3, 0, "32768");
            x.sheet(0, 0, 2);
            x.film(0, 0, 0).is(4);
            x.write(0, 1, 0, "0");
            x.write(0, 2, 0, "0");
            x.tells(0, 0, 0, 0).is(-1);
            x.sheet(1, 1, 4);
            x.copy(0, 0, 1, 0, 4).is(4);
        });
        edge(24, "truly becomes: missing, shorts, ints, longer, shorter as it was; and stays then", () -> {
            for (int was = 0; was < 4; was++) {
                Play x = Play.of(Edges::busy);
                x.film(was, 0, 0).is(3);
                x.tells(was, 0, 0, 0).is(-1);
                x.put(was, 3, 0).is(-12);
                x.write(0, 0, 0, "");
                x.tells(was, 0, 0, 0).is(0);
            }
        });
        edge(24, "the other SHEETS, and all else, stay", () -> Probe.stays(Edges::busy, x -> x.film(0, 1, 0), Probe.COUNTS,
                Probe.CELLS, Probe.CLASHES, Probe.TAKING, Probe.UNDOING, Probe.IMAGE, Probe.TAPE, Probe.RULES));
    }

    private static void filmRefusals() {
        edge(24, "BAD: no such SHEET, GRID, column", () -> {
            for (int v : new int[] {-1, 4, MIN, MAX}) {
                Probe.refused(Edges::busy, -2, x -> x.film(v, 0, 0), x -> x.film(0, v, 0));
            }
            for (int v : new int[] {-1, 3, MIN, MAX}) {
                Probe.refused(Edges::busy, -2, x -> x.film(0, 0, v));
            }
        });
    }

    private static void image() {
        edge(25, "how many ROWS MERGED has: 0 .. 8", () -> {
            for (int rows = 0; rows <= 8; rows++) {
                Play x = new Play();
                for (int i = 0; i < rows; i++) {
                    x.row(2, i, i + 1);
                }
                x.image().is(0);
                x.merge().is(0);
                x.image().is(rows);
            }
        });
        edge(25, "all but THE IMAGE stays, CLASHES too", () -> Probe.stays(Edges::busy, x -> x.image().is(4), Probe.COUNTS,
                Probe.CELLS, Probe.CLASHES, Probe.TAKING, Probe.UNDOING, Probe.TAPE, Probe.RULES, Probe.SHEETS));
        edge(25, "a later one is kept in place of it", () -> {
            Play x = Play.of(Edges::busy);
            x.image().is(4);
            x.drop(0, 0);
            x.back().is(4);
            x.keysAre(2, "40 10 20").taken(0, 2).is(7);
        });
    }

    private static void backRefusals() {
        edge(26, "STATE: there is none", () -> {
            new Play().back().is(-3);
            Probe.refused(x -> x.rows(0, 1, 2).rows(1, 2).merge(), -3, Play::back);
        });
    }

    private static void backKeeps() {
        edge(26, "all that it keeps is as in THE IMAGE, whatever came since", () -> {
            Play x = new Play();
            Edges.busy(x);
            x.back().is(3);
            for (int grid = 0; grid <= 3; grid++) {
                x.keysAre(grid, "10 20 30").prints(grid, 1, 0, "=a1*2").valueIs(grid, 1, 0, 10);
                x.told(grid, 1, 1, 1).is(7);
                x.told(grid, 2, 2, 0).is(0);
            }
            x.taken(0, 0).is(0);
            x.taken(1, 3).is(8);
            x.taken(1, 4).is(-13);
            x.taken(2, 5).is(-13);
        });
        edge(26, "CHANGES: none, 6, and those of it alone", () -> {
            Play x = new Play();
            x.image().is(0);
            x.rows(0, 1, 2, 3);
            x.back().is(0);
            x.count(6).is(0);
            x.undo().is(-3).count(0).is(0);
            x.rows(0, 1, 2, 3, 4, 5, 6, 7);
            x.image().is(0);
            for (int i = 0; i < 7; i++) {
                x.drop(0, 0).is(i + 1);
            }
            x.back().is(0);
            for (int left = 5; left >= 0; left--) {
                x.undo().is(left).count(0).is(left + 1);
            }
            x.undo().is(-3);
        });
        edge(26, "again and again: what comes since leaves THE IMAGE as it was", () -> {
            Play x = Play.of(Edges::busy);
            for (int i = 0; i < 3; i++) {
                x.back().is(3);
                x.write(0, 0, 0, "=a2+$a3").is(i == 0 ? -104 : 2);
                x.write(0, 0, 0, "=a2+$a3");
                x.move(1, 0, 2);
                x.note(2, 1, 1, 1);
                x.rule(1, 0, 0).is(38);
                x.merge();
                x.drop(0, 0);
            }
            x.back().is(3);
            x.keysAre(1, "10 20 30").prints(0, 0, 0, "5").told(2, 1, 1, 1).is(7);
            x.keysAre(3, "10 20 30").keysAre(0, "10 20 30").rule(1, 0, 0).is(38);
        });
        edge(26, "THE TAPE and SHEETS aren't kept: they stay", () -> {
            Probe.stays(Edges::busy, x -> x.back().is(3), Probe.TAPE);
            Play x = Play.of(Edges::busy);
            x.back().is(3);
            x.put(3, 39, 2).is(1).put(2, 0, 0).is(-11).put(1, 3, 0).is(-12);
            x.sheet(2, 1, 4);
            x.copy(0, 0, 2, 0, 4).is(4);
        });
    }

    private static void backEnds() {
        edge(26, "no CLASHES (none stand when it is laid back)", () -> {
            Play x = Play.of(Edges::busy);
            x.image().is(4);
            x.count(4).is(3);
            x.back().is(4);
            x.count(4).is(0);
            x.count(5).is(0);
            x.clash(0, 0).is(-12);
            x.settle(0, 0).is(-12);
        });
        edge(26, "for take() there was no merge() then", () -> {
            Play x = Play.of(Edges::busy);
            x.back().is(3).take().is(-3);
            x = new Play().rows(0, 5).rows(1, 5).rows(2, 5);
            x.merge().is(0);
            x.image().is(1);
            x.back().is(1).take().is(-3).count(3).is(1);
            x.merge().is(0).take().is(1);
        });
        edge(26, "no CHANGE: how many can be UNDONE is as in THE IMAGE", () -> {
            Play x = new Play().rows(0, 5);
            x.image();
            x.back().is(0).count(6).is(1);
            x.back().is(0).count(6).is(1);
        });
    }

    private static void count() {
        edge(27, "what: 0 .. 7", () -> {
            Play x = Play.of(Edges::busy);
            int[] due = {3, 3, 3, 4, 3, 2, 6, 4};
            for (int what = 0; what <= 7; what++) {
                x.count(what).is(due[what]);
                new Play().count(what).is(0);
            }
            for (int v : new int[] {-1, 8, MIN, MAX}) {
                Probe.refused(Edges::busy, -2, y -> y.count(v));
            }
        });
        edge(27, "ROWS of each GRID apart: 1, 2, 3, and of MERGED; 8 at most", () -> {
            Play x = new Play().rows(0, 1).rows(1, 2, 3).rows(2, 4, 5, 6);
            x.merge().is(0);
            x.count(0).is(1).count(1).is(2).count(2).is(3).count(3).is(5);
            Edges.eightRows(x.drop(0, 0).is(1), 0);
            x.count(0).is(8);
        });
        edge(27, "CLASHES, of these not SETTLED, down to 0", () -> {
            Play x = Play.of(Edges::busy);
            x.settle(0, 0);
            x.count(4).is(3).count(5).is(1);
            x.settle(2, 0);
            x.count(4).is(3).count(5).is(0);
        });
        edge(27, "CHANGES that can be UNDONE: 6 at most; bytes of THE TAPE: 40 at most", () -> {
            Play x = new Play().rows(0, 1, 2, 3, 4, 5);
            x.count(6).is(5);
            x.rows(0, 6);
            x.count(6).is(6);
            x.rows(0, 7);
            x.count(6).is(6);
            x.text(" ".repeat(40)).count(7).is(40);
        });
    }
}
