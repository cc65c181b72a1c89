import java.util.function.Consumer;
import java.util.function.Function;

/**
 * What can be seen of an object, a part at a time, each on an object of its own: for most of it is seen only by calls
 * that change it.
 */
enum Probe {
    COUNTS {
        @Override
        String of(Play x) {
            StringBuilder told = new StringBuilder();
            for (int what = 0; what <= 7; what++) {
                told.append(x.count(what).got).append(' ');
            }
            return told.toString();
        }
    },
    CELLS {
        @Override
        String of(Play x) {
            StringBuilder told = new StringBuilder();
            for (int grid = 0; grid < 4; grid++) {
                told.append(rows(x, grid, true));
            }
            return told.toString();
        }
    },
    CLASHES {
        @Override
        String of(Play x) {
            StringBuilder told = new StringBuilder();
            int clashes = x.count(4).got;
            for (int i = 0; i <= clashes; i++) {
                for (int what = 0; what <= 3; what++) {
                    told.append(x.clash(i, what).got).append(' ');
                }
            }
            return told.toString();
        }
    },
    TAKING {
        @Override
        String of(Play x) {
            StringBuilder told = new StringBuilder();
            int clashes = x.count(4).got;
            for (int i = 0; i < clashes; i++) {
                told.append(x.settle(i, 1).got).append(' ');
            }
            return told.append(x.take().got).append(rows(x, 0, false)).toString();
        }
    },
    MERGING {
        @Override
        String of(Play x) {
            return x.merge().got + rows(x, 3, true);
        }
    },
    UNDOING {
        @Override
        String of(Play x) {
            return undone(x);
        }
    },
    IMAGE {
        @Override
        String of(Play x) {
            return x.back().got + CELLS.of(x) + RULES.of(x) + COUNTS.of(x);
        }
    },
    UNDOING_THE_IMAGE {
        @Override
        String of(Play x) {
            return x.back().got + undone(x);
        }
    },
    TAPE {
        @Override
        String of(Play x) {
            int size = x.count(7).got;
            int content = x.write(0, 0, 0).got;
            return size + " " + content + " " + x.printed(0, 0, 0);
        }
    },
    RULES {
        @Override
        String of(Play x) {
            StringBuilder told = new StringBuilder();
            for (int column = 0; column < 3; column++) {
                for (int kind = 0; kind <= 5; kind++) {
                    told.append(x.taken(column, kind).got).append(' ');
                }
            }
            return told.toString();
        }
    },
    SHEETS {
        @Override
        String of(Play x) {
            StringBuilder told = new StringBuilder();
            for (int sheet = 0; sheet < 4; sheet++) {
                for (int other = 0; other < 4; other++) {
                    told.append(x.copy(sheet, 0, other, 0, 0).got).append(' ');
                }
                for (int cell = 0; cell < 12; cell++) {
                    told.append(x.tells(sheet, cell / 3, cell % 3, 0).got).append(' ');
                }
                told.append(size(x, sheet)).append(' ');
            }
            return told.toString();
        }
    };

    abstract String of(Play x);

    private static String rows(Play x, int grid, boolean isWhole) {
        StringBuilder told = new StringBuilder("|");
        int rows = x.count(grid).got;
        for (int row = 0; row < rows; row++) {
            told.append(x.told(grid, row, 0, 2).got).append(':');
            for (int column = 0; column < 3; column++) {
                told.append(x.value(grid, row, column)).append(' ');
                if (isWhole) {
                    told.append(x.told(grid, row, column, 1).got).append(' ');
                    boolean isFormula = x.told(grid, row, column, 0).got == 2;
                    told.append(isFormula ? x.printed(grid, row, column) : "").append(' ');
                }
            }
        }
        return told.toString();
    }

    private static String undone(Play x) {
        StringBuilder told = new StringBuilder();
        int changes = x.count(6).got;
        for (int i = 0; i <= changes; i++) {
            told.append(x.undo().got);
            for (int grid = 0; grid < 3; grid++) {
                told.append(rows(x, grid, false));
            }
        }
        return told.toString();
    }

    private static int size(Play x, int sheet) {
        int size = 0;
        while (size <= 40 && x.copy(sheet, 0, sheet, 0, size + 1).got > 0) {
            size++;
        }
        return size;
    }

    /** An object that had these calls stands as one that hadn't, as far as these parts of it go. */
    static void stays(Consumer<Play> run, Consumer<Play> calls, Probe... parts) {
        for (Probe part : parts) {
            Play with = Play.of(run.andThen(calls));
            String found = part.of(with);
            Play without = Play.of(run);
            String due = part.of(without);
            if (!found.equals(due)) {
                throw with.wrong(part + " is " + found + ", due is as without the call: " + due);
            }
        }
    }

    /** The calls answer so, and each leaves all as it was. */
    @SafeVarargs
    static void refused(Consumer<Play> run, int due, Function<Play, Play.Answer>... calls) {
        for (Function<Play, Play.Answer> call : calls) {
            call.apply(Play.of(run)).is(due);
            stays(run, x -> call.apply(x).is(due), values());
        }
    }
}
