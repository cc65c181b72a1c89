import java.util.ArrayList;
import java.util.List;
import java.util.function.Consumer;

/** Promises 17 to 19 at their edges, and what the Terms say of what is SETTLED, of CHANGES and of what is UNDONE. */
public final class SettleEdgesTest {
    private static final Edges EDGES = new Edges("SettleEdgesTest");
    private static final int MIN = Integer.MIN_VALUE;
    private static final int MAX = Integer.MAX_VALUE;

    public static void main(String[] args) {
        settleRefusals();
        settleContent();
        settleNote();
        settleRow();
        settleLeaves();
        clashesGo();
        clashesStay();
        take();
        takeRefusals();
        takeAfter();
        undo();
        undoSix();
        undoEach();
        EDGES.finish(17, 18, 19);
    }

    private static void edge(int promise, String sentence, Runnable body) {
        EDGES.edge(promise, sentence, body);
    }

    private static void settleRefusals() {
        edge(17, "by 0 MINE, 1 THEIRS, 2 BASE", () -> {
            for (int by = 0; by <= 2; by++) {
                Play.of(Edges::busy).settle(0, by).is(1);
            }
            Probe.refused(Edges::busy, -2, x -> x.settle(0, -1), x -> x.settle(0, 3), x -> x.settle(0, MIN),
                    x -> x.settle(0, MAX));
        });
        edge(17, "-12: a place outside; none, if there is no CLASH", () -> {
            Probe.refused(Edges::busy, -12, x -> x.settle(-1, 0), x -> x.settle(3, 0), x -> x.settle(48, 0),
                    x -> x.settle(MIN, 0), x -> x.settle(MAX, 0));
            new Play().settle(0, 0).is(-12);
            Play x = Play.of(Edges::busy);
            x.note(0, 0, 0, 1);
            x.settle(0, 0).is(-12);
        });
        edge(17, "STATE: it is", () -> {
            Probe.refused(Edges::busy, -3, x -> x.settle(1, 0), x -> x.settle(1, 1), x -> x.settle(1, 2));
            Play x = Play.of(Edges::busy);
            x.settle(2, 1).is(1);
            x.settle(2, 0).is(-3);
        });
        edge(17, "BAD is named ahead of -12 and STATE", () -> Probe.refused(Edges::busy, -2, x -> x.settle(3, 3),
                x -> x.settle(1, 3), x -> x.settle(-1, -1)));
        edge(17, "how many aren't yet: down to 0", () -> {
            Play x = Play.of(Edges::busy);
            x.settle(2, 0).is(1);
            x.settle(0, 0).is(0);
            x.count(5).is(0);
            x.count(4).is(3);
        });
    }

    /** KEY 5 is in these GRIDS, and each has its own CONTENT and NOTE, unlike the others'. */
    private static Play clashing(boolean isInBase) {
        Play x = new Play();
        for (int grid = isInBase ? 0 : 1; grid <= 2; grid++) {
            x.rows(grid, 4, 5);
            for (int column = 0; column < 3; column++) {
                x.write(grid, 1, column, "1" + grid + column);
                x.note(grid, 1, column, 10 * (grid + 1) + column);
            }
        }
        x.merge().is(6);
        return x;
    }

    private static void settleContent() {
        edge(17, "that GRID's CONTENT of the KEY is MERGED's, its NOTE and the others' stay", () -> {
            for (int column = 0; column < 3; column++) {
                for (int by = 0; by <= 2; by++) {
                    Play x = clashing(true);
                    x.settle(2 * column, by).is(5);
                    for (int c = 0; c < 3; c++) {
                        x.prints(3, 1, c, c == column ? "1" + new int[] {1, 2, 0}[by] + c : "11" + c);
                        x.told(3, 1, c, 1).is(30 + c);
                    }
                }
            }
        });
        edge(17, "by BASE, that has none of that KEY: EMPTY", () -> {
            for (int column = 0; column < 3; column++) {
                Play x = clashing(false);
                x.settle(2 * column, 2).is(5);
                x.told(3, 1, column, 0).is(0);
                x.told(3, 1, column, 3).is(0);
                x.valueIs(3, 1, column, 0).valueIs(3, 1, (column + 1) % 3, 110 + (column + 1) % 3);
            }
        });
        edge(17, "CONTENT of each kind", () -> {
            String[] texts = {"=b1+#", "", "7"};
            for (int by = 0; by <= 2; by++) {
                Play x = new Play().rows(0, 5).rows(1, 5).rows(2, 5);
                for (int grid = 0; grid < 3; grid++) {
                    x.write(grid, 0, 0, texts[grid]);
                }
                x.merge().is(1);
                x.settle(0, by).is(0);
                x.prints(3, 0, 0, texts[new int[] {1, 2, 0}[by]]);
            }
        });
    }

    private static void settleNote() {
        edge(17, "that GRID's NOTE of the KEY is MERGED's, its CONTENT and the others' stay", () -> {
            for (int column = 0; column < 3; column++) {
                for (int by = 0; by <= 2; by++) {
                    Play x = clashing(true);
                    x.settle(2 * column + 1, by).is(5);
                    for (int c = 0; c < 3; c++) {
                        x.told(3, 1, c, 1).is(c == column ? new int[] {20, 30, 10}[by] + c : 30 + c);
                        x.valueIs(3, 1, c, 110 + c);
                    }
                }
            }
        });
        edge(17, "by BASE, that has none of that KEY: NOTE 0", () -> {
            Play x = clashing(false);
            x.settle(3, 2).is(5);
            x.told(3, 1, 1, 1).is(0);
            x.told(3, 1, 0, 1).is(30);
            x.valueIs(3, 1, 1, 111);
        });
    }

    /** KEY 5 is in BASE and, CHANGED, in one other GRID. */
    private static Play rowClash(int holder) {
        Play x = new Play().rows(0, 1, 5, 9).rows(1, 1, 9).rows(2, 1, 9);
        x.write(0, 1, 0, "7");
        x.note(0, 1, 0, 6);
        x.row(holder, 1, 5).is(3);
        x.write(holder, 1, 1, "8");
        x.note(holder, 1, 1, 4);
        x.merge().is(1);
        x.keysAre(3, "1 5 9").clashIs(0, 2, 5, -1);
        return x;
    }

    private static void settleRow() {
        edge(17, "by a CLASH 2 the ROW goes out of MERGED, if that GRID has none of that KEY", () -> {
            rowClash(1).settle(0, 1).is(0).keysAre(3, "1 9");
            rowClash(2).settle(0, 0).is(0).keysAre(3, "1 9");
        });
        edge(17, "by a CLASH 2 else it is as there", () -> {
            for (int holder = 1; holder <= 2; holder++) {
                Play x = rowClash(holder);
                x.settle(0, holder - 1).is(0).keysAre(3, "1 5 9").valueIs(3, 1, 1, 8).told(3, 1, 1, 1).is(4);
                x.told(3, 1, 0, 0).is(0);
                x.told(3, 1, 0, 1).is(0);
                x = rowClash(holder);
                x.settle(0, 2).is(0).keysAre(3, "1 5 9").valueIs(3, 1, 0, 7).told(3, 1, 0, 1).is(6);
                x.told(3, 1, 1, 0).is(0);
                x.told(3, 1, 1, 1).is(0);
            }
        });
        edge(17, "the others are SETTLED by KEY, also when a ROW went out ahead of theirs", () -> {
            Play x = new Play().rows(0, 1, 2, 3).rows(1, 1, 2, 3).rows(2, 3);
            x.note(1, 0, 0, 1);
            x.note(1, 1, 0, 1);
            x.write(1, 2, 2, "5");
            x.write(2, 0, 2, "6");
            x.note(1, 2, 2, 7);
            x.note(2, 0, 2, 8);
            x.merge().is(4);
            x.settle(0, 1).is(3).keysAre(3, "2 3");
            x.settle(2, 1).is(2).valueIs(3, 1, 2, 6);
            x.settle(1, 1).is(1).keysAre(3, "3");
            x.settle(3, 0).is(0).told(3, 0, 2, 1).is(7);
            x.valueIs(3, 0, 2, 6).take().is(1);
        });
        edge(17, "the only ROW of MERGED goes out; a REF to a ROW that went is LOST", () -> {
            Play x = new Play().rows(0, 5).rows(1, 5);
            x.note(1, 0, 0, 1);
            x.merge().is(1);
            x.settle(0, 1).is(0).count(3).is(0);
            x.take().is(0);
            x = rowClash(1);
            x.write(1, 0, 2, "=b2");
            x.merge().is(1);
            x.valueIs(3, 0, 2, 8).settle(0, 1).is(0).told(3, 0, 2, 3).is(-5);
        });
    }

    private static void settleLeaves() {
        edge(17, "no CHANGE: GRIDS 0 .. 2, RULES, THE TAPE, SHEETS, THE IMAGE stay", () -> {
            for (int by = 0; by <= 2; by++) {
                int asked = by;
                Probe.stays(Edges::busy, x -> x.settle(2, asked).is(1), Probe.MERGING, Probe.UNDOING, Probe.IMAGE,
                        Probe.UNDOING_THE_IMAGE, Probe.TAPE, Probe.RULES);
            }
        });
    }

    /** Each kind of CHANGE, none of them refused of a busy object. */
    private static List<Consumer<Play>> changes() {
        List<Consumer<Play>> changes = new ArrayList<>();
        for (int grid = 0; grid <= 2; grid++) {
            int g = grid;
            changes.add(x -> x.write(g, 1, 2).is(2));
            changes.add(x -> x.row(g, 1, 77));
            changes.add(x -> x.drop(g, 0));
            changes.add(x -> x.move(g, 0, 2));
            changes.add(x -> x.move(g, 1, 1));
            changes.add(x -> x.note(g, 0, 0, 55));
            changes.add(x -> x.note(g, 0, 2, 0));
            changes.add(x -> x.fill(g, 0, 0, 2));
            changes.add(x -> x.fill(g, 2, 0, 7).is(0));
            changes.add(x -> x.like(g, (g + 1) % 3));
            changes.add(x -> x.like(g, 3));
        }
        changes.add(x -> {
            x.settle(0, 0).is(1);
            x.settle(2, 1).is(0);
            x.take().is(3);
        });
        return changes;
    }

    /** Calls that are no CHANGE, whatever they answer. */
    private static List<Consumer<Play>> others() {
        List<Consumer<Play>> others = new ArrayList<>();
        others.add(x -> x.feed(1, 48, 0, 0, 0, 0).is(5));
        others.add(x -> x.rule(0, 1, 1).is(27));
        others.add(x -> x.exchanged());
        others.add(x -> x.drawn(1, 20));
        others.add(x -> x.chance(1, 8, 0));
        others.add(x -> x.tells(0, 3, 0, 0));
        others.add(x -> x.tells(0, 3, 0, 1));
        others.add(x -> x.film(0, 1, 0).is(3));
        others.add(x -> x.image().is(4));
        others.add(x -> x.sheet(0, -1, 0).is(1));
        others.add(x -> x.put(1, 0, 9).is(1));
        others.add(x -> x.copy(3, 0, 3, 1, 39).is(39));
        others.add(x -> x.write(3, 0, 0).is(-2));
        others.add(x -> x.row(0, 0, 10).is(-3));
        others.add(x -> x.drop(0, 3).is(-2));
        others.add(x -> x.move(0, 0, 3).is(-2));
        others.add(x -> x.note(0, 0, 0, 100).is(-2));
        others.add(x -> x.fill(0, 0, 0, 8).is(-2));
        others.add(x -> x.like(1, 1).is(-2));
        others.add(x -> x.feed(1, '?', 0, 0, 0, 0).is(5).write(0, 0, 0).is(-104));
        return others;
    }

    private static void clashesGo() {
        edge(17, "CLASHES: none any more, if there was a CHANGE; MERGED stays", () -> {
            for (Consumer<Play> change : changes()) {
                Play x = Play.of(Edges::busy);
                change.accept(x);
                String merged = x.keys(3);
                x.count(4).is(0);
                x.count(5).is(0);
                x.clash(0, 0).is(-12);
                x.settle(0, 0).is(-12);
                x.keysAre(3, merged).count(3).is(merged.split(" ").length);
            }
        });
        edge(17, "CLASHES: none any more, if one was UNDONE; MERGED stays", () -> {
            Play x = Play.of(Edges::busy);
            x.undo().is(5);
            x.count(4).is(0);
            x.clash(0, 0).is(-12);
            x.keysAre(3, "40 10 20 30");
            x.valueIs(3, 1, 0, 8).told(3, 2, 1, 1).is(8);
        });
    }

    private static void clashesStay() {
        edge(17, "CLASHES stay by what is no CHANGE, and by what is refused", () -> {
            for (Consumer<Play> other : others()) {
                Probe.stays(Edges::busy, other, Probe.CLASHES, Probe.UNDOING);
            }
        });
        edge(17, "CLASHES stay by a merge() that is refused: there is none, for it is FULL by a CHANGE alone", () -> {
            Play x = Play.of(Edges::crowded);
            x.merge().is(-4);
            x.count(4).is(0);
        });
    }

    private static void take() {
        edge(18, "MERGED becomes BASE, MINE and THEIRS: how many ROWS", () -> {
            Play x = Play.of(Edges::busy);
            x.settle(0, 1).is(1);
            x.settle(2, 0).is(0);
            String merged = x.keys(3);
            x.take().is(4);
            for (int grid = 0; grid <= 3; grid++) {
                x.keysAre(grid, merged).valueIs(grid, 1, 0, 8).told(grid, 2, 1, 1).is(8);
                x.prints(grid, 3, 2, "=#");
            }
            x.write(0, 1, 0).is(2);
            x.valueIs(0, 1, 0, 3).valueIs(1, 1, 0, 8).valueIs(2, 1, 0, 8).valueIs(3, 1, 0, 8);
        });
        edge(18, "of no ROWS, of 8", () -> {
            Play x = new Play();
            x.merge().is(0);
            x.take().is(0);
            x = new Play().rows(1, 1, 2, 3, 4).rows(2, 5, 6, 7, 8);
            x.merge().is(0);
            x.take().is(8);
            x.keysAre(0, "5 6 7 8 1 2 3 4");
        });
        edge(18, "RULES, THE TAPE, SHEETS, THE IMAGE stay", () -> Probe.stays(SettleEdgesTest::settled, Play::take,
                Probe.RULES, Probe.TAPE, Probe.IMAGE, Probe.UNDOING_THE_IMAGE));
    }

    private static void settled(Play x) {
        Edges.busy(x);
        x.settle(0, 1);
        x.settle(2, 0);
    }

    private static void takeRefusals() {
        edge(18, "STATE: there was no merge()", () -> {
            new Play().take().is(-3);
            Probe.refused(x -> x.rows(0, 1).rows(1, 1, 2), -3, Play::take);
            Probe.refused(x -> {
                Edges.eightRows(x, 1);
                x.rows(2, 9);
                x.merge().is(-4);
            }, -3, Play::take);
        });
        edge(18, "STATE: since the latest merge() there was a CHANGE", () -> {
            for (Consumer<Play> change : changes()) {
                Probe.refused(x -> {
                    Edges.busy(x);
                    change.accept(x);
                }, -3, Play::take);
            }
        });
        edge(18, "STATE: one was UNDONE", () -> Probe.refused(x -> {
            settled(x);
            x.undo().is(5);
        }, -3, Play::take));
        edge(18, "STATE: a CLASH isn't SETTLED, be it the first, the last or one amid", () -> {
            Probe.refused(Edges::busy, -3, Play::take);
            for (int left = 0; left < 3; left++) {
                Play x = Play.of(Edges::busy);
                x.merge().is(3);
                for (int i = 0; i < 3; i++) {
                    if (i != left) {
                        x.settle(i, 0);
                    }
                }
                x.take().is(-3);
                x.settle(left, 0).is(0).take().is(4);
            }
        });
    }

    private static void takeAfter() {
        edge(18, "what is no CHANGE, and what is refused, leaves it to be taken", () -> {
            for (Consumer<Play> other : others()) {
                Play x = Play.of(SettleEdgesTest::settled);
                other.accept(x);
                x.take().is(4);
            }
        });
        edge(18, "once alone, and again behind a merge() anew", () -> {
            Play x = Play.of(SettleEdgesTest::settled);
            x.take().is(4).take().is(-3);
            x.merge().is(0).take().is(4);
            x.undo().is(5).merge().is(0);
            x.undo().is(4).merge().is(3);
        });
    }

    private static void undo() {
        edge(19, "STATE: none", () -> {
            new Play().undo().is(-3);
            Probe.refused(x -> {
                x.rows(1, 7);
                x.undo().is(0);
                x.merge();
            }, -3, Play::undo);
            Probe.refused(x -> {
                Edges.busy(x);
                for (int left = 5; left >= 0; left--) {
                    x.undo().is(left);
                }
            }, -3, Play::undo);
        });
        edge(19, "MERGED, RULES, THE TAPE, SHEETS, THE IMAGE stay", () -> {
            Probe.stays(Edges::busy, x -> x.undo().is(5), Probe.RULES, Probe.TAPE, Probe.IMAGE, Probe.UNDOING_THE_IMAGE);
            Play x = Play.of(Edges::busy);
            x.undo().is(5);
            x.keysAre(3, "40 10 20 30").tells(0, 3, 0, 0).is(-1);
            x.put(3, 39, 0).is(1).put(2, 0, 0).is(-11);
        });
    }

    private static void undoSix() {
        edge(19, "the latest 6 can be UNDONE: how many can be yet", () -> {
            for (int changes = 0; changes <= 8; changes++) {
                Play x = new Play();
                for (int i = 0; i < changes; i++) {
                    x.row(1, i, 11 + i).is(i + 1);
                }
                int most = Math.min(changes, 6);
                x.count(6).is(most);
                for (int i = 1; i <= most; i++) {
                    x.undo().is(most - i).count(1).is(changes - i);
                }
                x.undo().is(-3).count(1).is(changes - most);
            }
        });
        edge(19, "of very many, the latest 6 yet", () -> {
            Play x = new Play().rows(2, 5);
            for (int v = 1; v <= 99; v++) {
                x.note(2, 0, 1, v).is(v - 1);
            }
            for (int i = 1; i <= 6; i++) {
                x.undo().is(6 - i).told(2, 0, 1, 1).is(99 - i);
            }
            x.undo().is(-3).told(2, 0, 1, 1).is(93);
        });
        edge(19, "a CHANGE behind one that was UNDONE: that one comes no more", () -> {
            Play x = new Play().rows(0, 1, 2, 3);
            x.undo().is(2);
            x.row(0, 2, 9).is(3).count(6).is(3);
            x.undo().is(2).keysAre(0, "1 2").undo().is(1).keysAre(0, "1").undo().is(0).keysAre(0, "").undo().is(-3);
            x = new Play().rows(0, 1, 2, 3, 4, 5, 6, 7);
            x.undo().is(5).undo().is(4).undo().is(3);
            x.rows(0, 15, 16, 17, 18).count(6).is(6);
            x.undo().is(5).undo().is(4).undo().is(3).undo().is(2).keysAre(0, "1 2 3 4");
            x.undo().is(1).undo().is(0).keysAre(0, "1 2").undo().is(-3);
        });
    }

    /** An object of 5 CHANGES, so that one more leaves all of them to be UNDONE. */
    private static void fiveChanges(Play x) {
        x.rows(0, 10, 20);
        x.like(1, 0);
        x.like(2, 0);
        x.write(1, 0, 0, "=a2+$b1");
        x.rule(0, 3, 3);
        x.merge().is(0);
        x.sheet(1, 0, 2);
    }

    private static void undoEach() {
        edge(19, "the three are as ahead of it: of each CHANGE", () -> {
            List<Consumer<Play>> changes = new ArrayList<>();
            for (int grid = 0; grid <= 2; grid++) {
                int g = grid;
                changes.add(x -> x.write(g, 1, 2, "5").is(1));
                changes.add(x -> x.write(g, 0, 0, "").is(0));
                changes.add(x -> x.write(g, 0, 0, "=a1").is(2));
                changes.add(x -> x.row(g, 1, 77).is(3));
                changes.add(x -> x.drop(g, 0).is(10));
                changes.add(x -> x.move(g, 0, 1).is(10));
                changes.add(x -> x.note(g, 0, 0, 55).is(0));
                changes.add(x -> x.fill(g, 0, 0, 1).is(1));
                changes.add(x -> x.like(g, (g + 1) % 3).is(2));
                changes.add(x -> x.like(g, 3).is(2));
            }
            changes.add(x -> x.take().is(2));
            for (Consumer<Play> change : changes) {
                Probe.stays(SettleEdgesTest::fiveChanges, x -> {
                    change.accept(x);
                    x.count(6).is(6);
                    x.undo().is(5);
                }, Probe.CELLS, Probe.COUNTS, Probe.RULES, Probe.UNDOING, Probe.TAPE, Probe.SHEETS);
            }
        });
        edge(19, "a call that is refused is none to be UNDONE", () -> {
            Play x = Play.of(SettleEdgesTest::fiveChanges);
            x.write(3, 0, 0).is(-2);
            x.write(0, 0, 0, "?").is(-100);
            x.row(0, 0, 10).is(-3);
            x.drop(0, 2).is(-2);
            x.move(0, 0, 2).is(-2);
            x.note(0, 0, 0, 100).is(-2);
            x.fill(0, 0, 0, 0).is(-2);
            x.like(0, 0).is(-2);
            x.note(0, 0, 3, 0).is(-2);
            x.count(6).is(5);
            x.undo().is(4).told(1, 0, 0, 0).is(0);
            x.take().is(-3).count(6).is(4);
        });
    }
}
