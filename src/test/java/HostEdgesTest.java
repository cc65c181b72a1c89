import java.util.function.Consumer;

/** Promises 28 to 30 at their edges. */
public final class HostEdgesTest {
    private static final Edges EDGES = new Edges("HostEdgesTest");
    private static final int MIN = Integer.MIN_VALUE;
    private static final int MAX = Integer.MAX_VALUE;

    public static void main(String[] args) {
        sheet();
        sheetRefusals();
        put();
        putRefusals();
        copy();
        copyWithin();
        copyRefusals();
        EDGES.finish(28, 29, 30);
    }

    private static void edge(int promise, String sentence, Runnable body) {
        EDGES.edge(promise, sentence, body);
    }

    /** A SHEET of 8 at most holds these: BASE, which has no ROWS, gets them as VALUES, and is as it was then. */
    private static Play holds(Play x, int sheet, int... values) {
        for (int i = 0; i < values.length; i++) {
            x.row(0, i, i + 1).is(i + 1);
            long size = Math.abs((long) values[i]);
            String sign = values[i] < 0 ? "-" : "+";
            x.write(0, i, 0, "=0" + sign + size / 999999 + "*999999" + sign + size % 999999).is(2);
            x.valueIs(0, i, 0, values[i]);
        }
        x.tells(sheet, 0, 0, 0).is(-1);
        for (int i = 0; i < values.length; i++) {
            x.drop(0, 0);
        }
        return x;
    }

    private static Consumer<Play> numbers(int sheet, int sort, int... numbers) {
        return x -> {
            x.sheet(sheet, sort, numbers.length).is(1);
            for (int i = 0; i < numbers.length; i++) {
                x.put(sheet, i, numbers[i]).is(1);
            }
        };
    }

    private static void sheet() {
        edge(28, "a row of n of a sort: n 0 .. 40", () -> {
            for (int sheet = 0; sheet <= 3; sheet++) {
                for (int sort = 0; sort <= 1; sort++) {
                    for (int n : new int[] {0, 1, 8, 39, 40}) {
                        Play x = new Play();
                        x.sheet(sheet, sort, n).is(1);
                        x.put(sheet, n, 0).is(-12);
                        x.put(sheet, n - 1, 0).is(n == 0 ? -12 : 1);
                        x.sheet((sheet + 1) % 4, 1 - sort, 0).is(1);
                        x.copy(sheet, 0, (sheet + 1) % 4, 0, 0).is(-13);
                    }
                }
            }
        });
        edge(28, "all 0, also where other numbers were", () -> {
            for (int sort = 0; sort <= 1; sort++) {
                Play x = Play.of(numbers(1, 1 - sort, 9, 9, 9, 9));
                x.sheet(1, sort, 4).is(1);
                holds(x, 1, 0, 0, 0, 0);
                x.put(1, 3, 5);
                x.sheet(1, sort, 3).is(1);
                holds(x, 1, 0, 0, 0);
                x.sheet(1, sort, 5).is(1);
                holds(x, 1, 0, 0, 0, 0, 0);
            }
        });
        edge(28, "missing (sort -1: n does not matter)", () -> {
            for (int n : new int[] {0, 1, 40, 41, -1, MIN, MAX}) {
                Play x = Play.of(numbers(2, 1, 7, 8));
                x.sheet(2, -1, n).is(1);
                x.put(2, 0, 0).is(-11);
                x.sheet(2, -1, n).is(1);
                x.put(2, 0, 0).is(-11);
                x.sheet(2, 1, 2).is(1);
                holds(x, 2, 0, 0);
            }
        });
        edge(28, "the other SHEETS, and all else, stay", () -> {
            Play x = Play.of(numbers(0, 1, 1, 2).andThen(numbers(1, 0, 3, 4)).andThen(numbers(3, 1, 5)));
            x.sheet(2, 0, 40).is(1);
            x.sheet(1, -1, 0).is(1);
            holds(x, 0, 1, 2);
            holds(x, 3, 5);
            Probe.stays(Edges::busy, y -> y.sheet(0, 0, 4), Probe.COUNTS, Probe.CELLS, Probe.CLASHES, Probe.TAKING,
                    Probe.UNDOING, Probe.IMAGE, Probe.TAPE, Probe.RULES);
        });
    }

    private static void sheetRefusals() {
        edge(28, "BAD: no such SHEET, sort", () -> {
            for (int v : new int[] {-1, 4, MIN, MAX}) {
                Probe.refused(Edges::busy, -2, x -> x.sheet(v, 0, 1), x -> x.sheet(v, -1, 1), x -> x.sheet(v, 1, -1));
            }
            for (int v : new int[] {-2, 2, MIN, MAX}) {
                Probe.refused(Edges::busy, -2, x -> x.sheet(0, v, 1), x -> x.sheet(2, v, -1));
            }
        });
        edge(28, "BAD: n above 40", () -> {
            for (int n : new int[] {41, 100, MAX}) {
                Probe.refused(Edges::busy, -2, x -> x.sheet(0, 0, n), x -> x.sheet(2, 1, n));
            }
        });
        edge(28, "-14: a size below 0", () -> {
            for (int n : new int[] {-1, -40, MIN}) {
                Probe.refused(Edges::busy, -14, x -> x.sheet(0, 0, n), x -> x.sheet(2, 1, n));
            }
        });
    }

    private static void put() {
        edge(29, "item i of a SHEET: the first, the last", () -> {
            for (int sheet = 0; sheet <= 3; sheet++) {
                Play x = new Play();
                x.sheet(sheet, 1, 3);
                x.put(sheet, 0, 7).is(1);
                x.put(sheet, 2, -8).is(1);
                holds(x, sheet, 7, 0, -8);
            }
            Play x = new Play();
            x.sheet(0, 0, 40);
            x.put(0, 39, 5).is(1);
            x.put(0, 40, 5).is(-12);
            x.sheet(1, 0, 1);
            x.copy(0, 39, 1, 0, 1).is(1);
            holds(x, 1, 5);
        });
        edge(29, "of shorts its lowest 16 bits", () -> {
            int[] put = {32767, 32768, 65535, 65536, -32768, -32769, 0x12348765, MIN};
            holds(Play.of(numbers(0, 0, put)), 0, 32767, -32768, -1, 0, -32768, 32767, 0x8765 - 65536, 0);
            holds(Play.of(numbers(0, 0, MAX, -1, 0)), 0, -1, -1, 0);
        });
        edge(29, "of ints all of it", () -> {
            int[] put = {32767, 32768, 65535, 65536, -32769, MIN, MAX, -1};
            holds(Play.of(numbers(0, 1, put)), 0, put);
        });
        edge(29, "all else stays", () -> Probe.stays(Edges::busy, x -> x.put(1, 2, 5).is(1), Probe.COUNTS, Probe.CELLS,
                Probe.CLASHES, Probe.TAKING, Probe.UNDOING, Probe.IMAGE, Probe.TAPE, Probe.RULES));
    }

    private static void putRefusals() {
        edge(29, "BAD: no such SHEET", () -> {
            for (int v : new int[] {-1, 4, MIN, MAX}) {
                Probe.refused(Edges::busy, -2, x -> x.put(v, 0, 9), x -> x.put(v, -1, 9));
            }
        });
        edge(29, "-11: it is missing; named ahead of -12", () -> Probe.refused(Edges::busy, -11, x -> x.put(2, 0, 9),
                x -> x.put(2, -1, 9), x -> x.put(2, 40, 9)));
        edge(29, "-12: a place outside", () -> {
            for (int i : new int[] {-1, 4, 40, MIN, MAX}) {
                Probe.refused(Edges::busy, -12, x -> x.put(0, i, 9));
            }
            Probe.refused(Edges::busy, -12, x -> x.put(3, 40, 9), x -> x.put(1, 3, 9));
            Play x = new Play();
            x.sheet(0, 1, 0);
            x.put(0, 0, 9).is(-12);
        });
    }

    private static Play twoRows(int sort) {
        return Play.of(numbers(0, sort, 1, 2, 3, 4, 5).andThen(numbers(3, sort, 11, 12, 13, 14)));
    }

    private static void copy() {
        edge(30, "n numbers, from item i on, to item j on: none, one, as many as there are", () -> {
            for (int sort = 0; sort <= 1; sort++) {
                holds(twoRows(sort).copy(0, 0, 3, 0, 0).is(0), 3, 11, 12, 13, 14);
                holds(twoRows(sort).copy(0, 5, 3, 4, 0).is(0), 3, 11, 12, 13, 14);
                holds(twoRows(sort).copy(0, 4, 3, 3, 1).is(1), 3, 11, 12, 13, 5);
                holds(twoRows(sort).copy(0, 0, 3, 0, 4).is(4), 3, 1, 2, 3, 4);
                holds(twoRows(sort).copy(0, 1, 3, 0, 4).is(4), 3, 2, 3, 4, 5);
                holds(twoRows(sort).copy(0, 2, 3, 1, 2).is(2), 3, 11, 3, 4, 14);
                holds(twoRows(sort).copy(3, 0, 0, 1, 4).is(4), 0, 1, 11, 12, 13, 14);
                holds(twoRows(sort).copy(0, 0, 3, 0, 4).is(4), 0, 1, 2, 3, 4, 5);
            }
        });
        edge(30, "40 numbers", () -> {
            Play x = new Play();
            x.sheet(1, 0, 40);
            x.sheet(2, 0, 40);
            x.put(1, 39, 6);
            x.copy(1, 0, 2, 0, 40).is(40);
            x.copy(1, 0, 2, 0, 41).is(-12);
            x.copy(1, 0, 2, 1, 40).is(-12);
            x.sheet(0, 0, 2);
            x.copy(2, 38, 0, 0, 2).is(2);
            holds(x, 0, 0, 6);
        });
        edge(30, "of SHEETS without numbers: none", () -> {
            Play x = new Play();
            x.sheet(0, 1, 0);
            x.sheet(1, 1, 0);
            x.copy(0, 0, 1, 0, 0).is(0);
            x.copy(0, 0, 1, 0, 1).is(-12);
            x.copy(0, 1, 1, 0, 0).is(-12);
            x.copy(0, 0, 1, 1, 0).is(-12);
        });
        edge(30, "all else stays", () -> Probe.stays(Edges::busy, x -> x.copy(3, 39, 0, 0, 1).is(1), Probe.COUNTS,
                Probe.CELLS, Probe.CLASHES, Probe.TAKING, Probe.UNDOING, Probe.IMAGE, Probe.TAPE, Probe.RULES));
    }

    private static void copyWithin() {
        edge(30, "(as they were): within one SHEET too", () -> {
            for (int sort = 0; sort <= 1; sort++) {
                holds(twoRows(sort).copy(0, 0, 0, 1, 4).is(4), 0, 1, 1, 2, 3, 4);
                holds(twoRows(sort).copy(0, 1, 0, 0, 4).is(4), 0, 2, 3, 4, 5, 5);
                holds(twoRows(sort).copy(0, 0, 0, 0, 5).is(5), 0, 1, 2, 3, 4, 5);
                holds(twoRows(sort).copy(0, 3, 0, 0, 2).is(2), 0, 4, 5, 3, 4, 5);
            }
        });
    }

    private static void copyRefusals() {
        edge(30, "BAD: no such SHEET; named ahead of the others", () -> {
            for (int v : new int[] {-1, 4, MIN, MAX}) {
                Probe.refused(Edges::busy, -2, x -> x.copy(v, 0, 0, 0, 1), x -> x.copy(0, 0, v, 0, 1),
                        x -> x.copy(2, 0, v, 0, 1), x -> x.copy(v, 0, 2, -1, -1));
            }
        });
        edge(30, "-11: one is missing, or the other; named ahead of -13 and -12", () -> Probe.refused(Edges::busy, -11,
                x -> x.copy(2, 0, 0, 0, 0), x -> x.copy(0, 0, 2, 0, 0), x -> x.copy(2, 0, 2, 0, 0),
                x -> x.copy(2, -1, 1, 0, 1), x -> x.copy(1, 0, 2, 0, -1)));
        edge(30, "-13: they are of unlike sorts; named ahead of -12", () -> Probe.refused(Edges::busy, -13,
                x -> x.copy(0, 0, 1, 0, 1), x -> x.copy(1, 0, 3, 0, 0), x -> x.copy(1, -1, 0, 0, 1),
                x -> x.copy(0, 0, 1, 0, -1), x -> x.copy(3, 0, 1, 40, 1)));
        edge(30, "-12 (also with n below 0)", () -> {
            int[][] outside = {{0, 0, -1}, {0, 0, MIN}, {4, 0, -1}, {-1, 0, 0}, {-1, 0, 1}, {0, -1, 0}, {0, -1, 1}, {0, 0, 5},
                {0, 36, 5}, {0, 37, 4}, {1, 0, 4}, {4, 0, 1}, {5, 0, 0}, {0, 40, 1}, {0, 41, 0}, {0, 0, MAX}, {MAX, 0, 1},
                {0, MAX, 1}, {MAX, 0, MAX}, {0, MAX, MAX}, {MIN, 0, 1}, {0, MIN, 1}, {MIN, 0, MIN}, {1, 0, MAX},
                {MAX, MAX, 0}, {0, 0, 41}};
            for (int[] o : outside) {
                Probe.refused(Edges::busy, -12, x -> x.copy(0, o[0], 3, o[1], o[2]));
            }
            Probe.refused(Edges::busy, -12, x -> x.copy(0, 1, 0, 0, 4), x -> x.copy(0, 0, 0, 1, 4));
        });
        edge(30, "just inside: at the end of both", () -> {
            Play.of(Edges::busy).copy(0, 0, 3, 36, 4).is(4);
            Play.of(Edges::busy).copy(0, 4, 3, 40, 0).is(0);
            Play.of(Edges::busy).copy(3, 39, 0, 3, 1).is(1);
        });
    }
}
