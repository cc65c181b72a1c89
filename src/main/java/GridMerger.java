import java.util.Arrays;

/** Three grids of keyed rows, merged cell by cell. The document, DOC.md, says what every call answers. */
public final class GridMerger {
    public static final int NONE = -1, BAD = -2, STATE = -3, FULL = -4, LOST = -5, RING = -6;
    public static final long NO = Long.MIN_VALUE;

    private static final int MISSING = -11, OUTSIDE = -12, UNLIKE = -13, BELOW_NONE = -14, FAULT_AT_START = -100;

    private static final int BASE = 0, MINE = 1, THEIRS = 2, INPUTS = 3, GRIDS = 4;
    private static final int MAX_ROWS = 8, COLUMNS = 3, CELLS = MAX_ROWS * COLUMNS;
    private static final int NO_KEY = 0, MAX_KEY = 99, MAX_NOTE = 99, MAX_FIGURE = 99;
    private static final int EMPTY = 0, NUMBER = 1, FORMULA = 2;
    private static final int MAX_FED = 5, TAPE_SIZE = 40, MAX_DIGITS = 6, MAX_WITHIN = 4, MAX_FILLED = 7;

    private static final int OTHER = 1, GREATER = 2, ADDING = 3, CAPPED = 4, BACK = 5, RULE_KINDS = 6;
    private static final int ROW_CLASH = 2, CONTENT_CLASH = 1, NOTE_CLASH = 3;
    private static final int MAX_CLASHES = 2 * CELLS, MAX_CHANGES = 6;
    private static final int MAX_DRAWN = 20, MAX_SEEDS = 8, DRAWN_IN_SEED = 3;
    private static final int LEAST_INT = -2147483648, GREATEST_INT = 2147483647;

    private static final int SHEETS = 4, MAX_ITEMS = 40, SHORTS = 0, INTS = 1;

    // Kinds of TOKENS; a SIGN is of the kind of its own byte.
    private static final int END = 0, UNFIT = 1, DIGITS = '0', COLUMN = 'a';
    private static final int TOTAL = 't', MOST = 'm', LEAST = 'l', MANY = 'n';
    private static final int EQUALS = '=', PLUS = '+', MINUS = '-', TIMES = '*', OPEN = '(', CLOSE = ')';
    private static final int COLON = ':', DOLLAR = '$', HASH = '#';
    // What a FORMULA has besides: a REF is one thing there, and a - of a ONE isn't that of a SUM.
    private static final int REF = 'r', STAYING_REF = 's', NEGATIVE = 'g';

    private final Board board = new Board();
    private final Board imaged = new Board();
    private boolean hasImage;
    private final Tape tape = new Tape();
    private final TextReader reader = new TextReader(tape);
    private final Asking asking = new Asking();
    private final Clashes clashes = new Clashes();
    private boolean isMergeLatest;
    private final Merging thought = new Merging();
    private final Merging secondThought = new Merging();
    private final Grid drawnMine = new Grid();
    private final Grid drawnTheirs = new Grid();
    private final Rules triedRules = new Rules();
    private int draw;
    private final Sheet[] sheets = new Sheet[SHEETS];

    public GridMerger() {
        for (int i = 0; i < SHEETS; i++) {
            sheets[i] = new Sheet();
        }
    }

    // ---- grids

    public int feed(int n, int a, int b, int c, int d, int e) {
        if (n < 1 || n > MAX_FED) {
            return BAD;
        }
        int[] fed = {a, b, c, d, e};
        for (int v : fed) {
            if (!isIn(v, 0, 255)) {
                return BAD;
            }
        }
        if (!tape.hasRoom(n)) {
            return FULL;
        }
        for (int i = 0; i < n; i++) {
            tape.add(fed[i]);
        }
        return tape.size;
    }

    public int write(int grid, int row, int column) {
        if (!isInputCell(grid, row, column)) {
            return BAD;
        }
        Grid written = board.gridAt(grid);
        boolean isText = reader.read(written);
        tape.clear();
        if (!isText) {
            return FAULT_AT_START - tape.start();
        }
        beginChange();
        written.setContent(row, column, reader.kind, reader.number, reader.formula());
        return reader.kind;
    }

    public int row(int grid, int at, int key) {
        if (!isInput(grid) || !isIn(at, 0, board.gridAt(grid).rows) || !isIn(key, 1, MAX_KEY)) {
            return BAD;
        }
        Grid changed = board.gridAt(grid);
        if (changed.placeOf(key) != NONE) {
            return STATE;
        }
        if (changed.rows >= MAX_ROWS) {
            return FULL;
        }
        beginChange();
        changed.insertRow(at, key);
        return changed.rows;
    }

    public int drop(int grid, int row) {
        if (!isInputRow(grid, row)) {
            return BAD;
        }
        beginChange();
        int key = board.gridAt(grid).keyAt(row);
        board.gridAt(grid).removeRow(row);
        return key;
    }

    public int move(int grid, int row, int to) {
        if (!isInputRow(grid, row) || !isInputRow(grid, to)) {
            return BAD;
        }
        beginChange();
        board.gridAt(grid).moveRow(row, to);
        return board.gridAt(grid).keyAt(to);
    }

    public int note(int grid, int row, int column, int v) {
        if (!isInputCell(grid, row, column) || !isIn(v, 0, MAX_NOTE)) {
            return BAD;
        }
        beginChange();
        int before = board.gridAt(grid).noteAt(row, column);
        board.gridAt(grid).setNote(row, column, v);
        return before;
    }

    public int fill(int grid, int row, int column, int n) {
        if (!isInputCell(grid, row, column) || !isIn(n, 1, MAX_FILLED)) {
            return BAD;
        }
        beginChange();
        return board.gridAt(grid).fillBelow(row, column, n);
    }

    public int like(int grid, int other) {
        if (!isInput(grid) || !isGrid(other) || grid == other) {
            return BAD;
        }
        beginChange();
        board.gridAt(grid).become(board.gridAt(other));
        return board.gridAt(grid).rows;
    }

    public int told(int grid, int row, int column, int what) {
        if (!isCell(grid, row, column)) {
            return BAD;
        }
        Grid asked = board.gridAt(grid);
        switch (what) {
            case 0:
                return asked.kindAt(row, column);
            case 1:
                return asked.noteAt(row, column);
            case 2:
                return asked.keyAt(row);
            case 3:
                asking.valueOf(asked, row, column);
                return asking.wrong;
            default:
                return BAD;
        }
    }

    public long value(int grid, int row, int column) {
        if (!isCell(grid, row, column)) {
            return NO;
        }
        int found = asking.valueOf(board.gridAt(grid), row, column);
        return asking.wrong == 0 ? found : NO;
    }

    public int print(int grid, int row, int column, int k) {
        if (!isCell(grid, row, column)) {
            return BAD;
        }
        StringBuilder text = new StringBuilder();
        board.gridAt(grid).printCell(row, column, text);
        if (k == -1) {
            return text.length();
        }
        return k >= 0 && k < text.length() ? text.charAt(k) : OUTSIDE;
    }

    // ---- merging

    public int rule(int column, int kind, int figure) {
        if (!isColumn(column) || !isRuleKind(kind) || !isIn(figure, 0, MAX_FIGURE)) {
            return BAD;
        }
        int before = 10 * board.rules.kinds[column] + board.rules.figures[column];
        board.rules.kinds[column] = kind;
        board.rules.figures[column] = figure;
        return before;
    }

    public int taken(int column, int k) {
        if (!isColumn(column) || !isRuleKind(k)) {
            return BAD;
        }
        return board.rules.isOf(column, k) ? board.rules.figures[column] : UNLIKE;
    }

    public int merge() {
        if (!thought.make(board.base, board.mine, board.theirs, board.rules)) {
            return FULL;
        }
        board.merged.become(thought.merged);
        clashes.become(thought.clashes);
        isMergeLatest = true;
        return clashes.size;
    }

    public int clash(int i, int what) {
        if (!isIn(what, 0, 3)) {
            return BAD;
        }
        if (!clashes.has(i)) {
            return OUTSIDE;
        }
        switch (what) {
            case 0:
                return clashes.kinds[i];
            case 1:
                return clashes.keys[i];
            case 2:
                return clashes.columns[i];
            default:
                return clashes.settled[i];
        }
    }

    public int settle(int i, int by) {
        if (!isIn(by, 0, 2)) {
            return BAD;
        }
        if (!clashes.has(i)) {
            return OUTSIDE;
        }
        if (clashes.settled[i] == 1) {
            return STATE;
        }
        Grid settler = by == 0 ? board.mine : by == 1 ? board.theirs : board.base;
        board.mergedAsIn(settler, clashes.kinds[i], clashes.keys[i], clashes.columns[i]);
        clashes.settled[i] = 1;
        return clashes.unsettled();
    }

    public int take() {
        if (!isMergeLatest || clashes.unsettled() > 0) {
            return STATE;
        }
        beginChange();
        board.base.become(board.merged);
        board.mine.become(board.merged);
        board.theirs.become(board.merged);
        return board.merged.rows;
    }

    public int undo() {
        if (!board.undoLatest()) {
            return STATE;
        }
        forgetMerge();
        return board.changes;
    }

    // ---- in thought

    public int exchanged() {
        if (!thought.make(board.base, board.mine, board.theirs, board.rules)
                || !secondThought.make(board.base, board.theirs, board.mine, board.rules)) {
            return FULL;
        }
        return thought.merged.unlikeCells(secondThought.merged);
    }

    public int drawn(int seed, int n) {
        return isIn(n, 0, MAX_DRAWN) ? clashesDrawn(seed, n) : BAD;
    }

    public int chance(int seed, int m, int part) {
        if (!isIn(m, 1, MAX_SEEDS) || !isIn(part, 0, 1)) {
            return BAD;
        }
        int free = 0;
        for (int i = 0; i < m; i++) {
            int found = clashesDrawn(seed + i, DRAWN_IN_SEED);
            if (found == FULL) {
                return FULL;
            }
            free += found == 0 ? 1 : 0;
        }
        return inLowestTerms(part, free, m);
    }

    // ---- what was told

    public int tells(int sheet, int grid, int column, int what) {
        if (!isSheet(sheet) || !isColumn(column) || !isIn(what, 0, 1) || what == 0 && !isGrid(grid)) {
            return BAD;
        }
        Sheet teller = sheets[sheet];
        if (teller.isMissing()) {
            return MISSING;
        }
        if (teller.size > MAX_ROWS) {
            return BAD;
        }
        return what == 0 ? firstOtherwise(teller, board.gridAt(grid), column) : rulesTold(teller, column);
    }

    public int film(int sheet, int grid, int column) {
        if (!isSheet(sheet) || !isGrid(grid) || !isColumn(column)) {
            return BAD;
        }
        Grid asked = board.gridAt(grid);
        sheets[sheet].become(INTS, asked.rows);
        for (int i = 0; i < asked.rows; i++) {
            sheets[sheet].set(i, asking.valueOf(asked, i, column));
        }
        return asked.rows;
    }

    public int image() {
        imaged.become(board);
        hasImage = true;
        return board.merged.rows;
    }

    public int back() {
        if (!hasImage) {
            return STATE;
        }
        board.become(imaged);
        forgetMerge();
        return board.merged.rows;
    }

    public int count(int what) {
        if (isGrid(what)) {
            return board.gridAt(what).rows;
        }
        switch (what) {
            case 4:
                return clashes.size;
            case 5:
                return clashes.unsettled();
            case 6:
                return board.changes;
            case 7:
                return tape.size;
            default:
                return BAD;
        }
    }

    // ---- the host

    public int sheet(int sheet, int sort, int n) {
        if (!isSheet(sheet) || !isIn(sort, NONE, INTS) || sort != NONE && n > MAX_ITEMS) {
            return BAD;
        }
        if (sort != NONE && n < 0) {
            return BELOW_NONE;
        }
        sheets[sheet].become(sort, sort == NONE ? 0 : n);
        return 1;
    }

    public int put(int sheet, int i, int v) {
        if (!isSheet(sheet)) {
            return BAD;
        }
        if (sheets[sheet].isMissing()) {
            return MISSING;
        }
        if (!sheets[sheet].hasItems(i, 1)) {
            return OUTSIDE;
        }
        sheets[sheet].set(i, v);
        return 1;
    }

    public int copy(int sheet, int i, int other, int j, int n) {
        if (!isSheet(sheet) || !isSheet(other)) {
            return BAD;
        }
        Sheet from = sheets[sheet];
        Sheet to = sheets[other];
        if (from.isMissing() || to.isMissing()) {
            return MISSING;
        }
        if (from.sort != to.sort) {
            return UNLIKE;
        }
        if (!from.hasItems(i, n) || !to.hasItems(j, n)) {
            return OUTSIDE;
        }
        System.arraycopy(from.items, i, to.items, j, n);
        return n;
    }

    // ---- what the calls share

    private static boolean isIn(int v, int least, int most) {
        return v >= least && v <= most;
    }

    private static boolean isGrid(int grid) {
        return grid >= 0 && grid < GRIDS;
    }

    private static boolean isInput(int grid) {
        return grid >= 0 && grid < INPUTS;
    }

    private static boolean isColumn(int column) {
        return column >= 0 && column < COLUMNS;
    }

    private static boolean isRuleKind(int kind) {
        return kind >= 0 && kind < RULE_KINDS;
    }

    private static boolean isSheet(int sheet) {
        return sheet >= 0 && sheet < SHEETS;
    }

    private boolean isCell(int grid, int row, int column) {
        return isGrid(grid) && board.gridAt(grid).cellAt(row, column) != NONE;
    }

    private boolean isInputCell(int grid, int row, int column) {
        return isInput(grid) && isCell(grid, row, column);
    }

    private boolean isInputRow(int grid, int row) {
        return isInput(grid) && row >= 0 && row < board.gridAt(grid).rows;
    }

    /** Comes ahead of every CHANGE, when nothing refuses it any more. */
    private void beginChange() {
        board.keepForUndo();
        forgetMerge();
    }

    private void forgetMerge() {
        clashes.clear();
        isMergeLatest = false;
    }

    private int clashesDrawn(int seed, int n) {
        drawnMine.become(board.mine);
        drawnTheirs.become(board.theirs);
        draw = seed;
        for (int i = 0; i < n; i++) {
            drawCell(drawBelow(2) == 0 ? drawnMine : drawnTheirs);
        }
        return thought.make(board.base, drawnMine, drawnTheirs, board.rules) ? thought.clashes.size : FULL;
    }

    private void drawCell(Grid grid) {
        if (grid.rows < 1) {
            return;
        }
        int place = drawBelow(grid.rows);
        int column = drawBelow(COLUMNS);
        grid.setContent(place, column, NUMBER, drawBelow(10), null);
    }

    private int drawBelow(int bound) {
        draw = draw * 1103515245 + 12345;
        return bound > 0 ? (draw >>> 9) % bound : 0;
    }

    /** Part 0 of a fraction is above its line, part 1 below. */
    private static int inLowestTerms(int part, int above, int below) {
        int asked = part == 0 ? above : below;
        for (int d = below; d > 1; d--) {
            if (above % d == 0 && below % d == 0) {
                return asked / d;
            }
        }
        return asked;
    }

    private int firstOtherwise(Sheet teller, Grid grid, int column) {
        int both = Math.min(teller.size, grid.rows);
        for (int i = 0; i < both; i++) {
            int found = asking.valueOf(grid, i, column);
            if (asking.wrong != 0 || found != teller.items[i]) {
                return i;
            }
        }
        return teller.size == grid.rows ? NONE : both;
    }

    private int rulesTold(Sheet teller, int column) {
        int bits = 0;
        triedRules.become(board.rules);
        for (int kind = 0; kind < RULE_KINDS; kind++) {
            triedRules.kinds[column] = kind;
            if (!thought.make(board.base, board.mine, board.theirs, triedRules)) {
                return FULL;
            }
            if (firstOtherwise(teller, thought.merged, column) == NONE) {
                bits |= 1 << kind;
            }
        }
        return bits;
    }

    /** A GRID. A place that it hasn't, NONE among them, counts as EMPTY and without NOTE. */
    private static final class Grid {
        private int rows;
        private final int[] keys = new int[MAX_ROWS];
        private final int[] kinds = new int[CELLS];
        private final int[] numbers = new int[CELLS];
        private final Formula[] formulas = new Formula[CELLS];
        private final int[] notes = new int[CELLS];

        private int cellAt(int place, int column) {
            boolean isThere = place >= 0 && place < rows && column >= 0 && column < COLUMNS;
            return isThere ? place * COLUMNS + column : NONE;
        }

        private int keyAt(int place) {
            return place >= 0 && place < rows ? keys[place] : NO_KEY;
        }

        private int placeOf(int key) {
            for (int i = 0; i < rows; i++) {
                if (keys[i] == key) {
                    return i;
                }
            }
            return NONE;
        }

        private int kindAt(int place, int column) {
            int cell = cellAt(place, column);
            return cell == NONE ? EMPTY : kinds[cell];
        }

        private int numberAt(int place, int column) {
            int cell = cellAt(place, column);
            return cell == NONE ? 0 : numbers[cell];
        }

        private Formula formulaAt(int place, int column) {
            int cell = cellAt(place, column);
            return cell == NONE ? null : formulas[cell];
        }

        private int noteAt(int place, int column) {
            int cell = cellAt(place, column);
            return cell == NONE ? 0 : notes[cell];
        }

        private void setContent(int place, int column, int kind, int number, Formula formula) {
            int cell = cellAt(place, column);
            if (cell != NONE) {
                kinds[cell] = kind;
                numbers[cell] = number;
                formulas[cell] = formula;
            }
        }

        private void setNote(int place, int column, int v) {
            int cell = cellAt(place, column);
            if (cell != NONE) {
                notes[cell] = v;
            }
        }

        private void contentAsIn(Grid other, int otherPlace, int place, int column) {
            int cell = cellAt(place, column);
            int otherCell = other.cellAt(otherPlace, column);
            if (cell == NONE) {
                return;
            }
            boolean isThere = otherCell != NONE;
            kinds[cell] = isThere ? other.kinds[otherCell] : EMPTY;
            numbers[cell] = isThere ? other.numbers[otherCell] : 0;
            formulas[cell] = isThere ? other.formulas[otherCell] : null;
        }

        private void rowAsIn(Grid other, int otherPlace, int place) {
            for (int column = 0; column < COLUMNS; column++) {
                contentAsIn(other, otherPlace, place, column);
                setNote(place, column, other.noteAt(otherPlace, column));
            }
        }

        private void become(Grid other) {
            rows = other.rows;
            System.arraycopy(other.keys, 0, keys, 0, MAX_ROWS);
            System.arraycopy(other.kinds, 0, kinds, 0, CELLS);
            System.arraycopy(other.numbers, 0, numbers, 0, CELLS);
            System.arraycopy(other.notes, 0, notes, 0, CELLS);
            for (int i = 0; i < CELLS; i++) {
                formulas[i] = other.formulas[i];
            }
        }

        /** Of no effect, if there is no room: the callers tell FULL ahead of it. */
        private void insertRow(int at, int key) {
            if (rows >= MAX_ROWS) {
                return;
            }
            int last = rows;
            rows++;
            keys[last] = key;
            for (int column = 0; column < COLUMNS; column++) {
                setContent(last, column, EMPTY, 0, null);
                setNote(last, column, 0);
            }
            moveRow(last, at);
        }

        private void removeRow(int place) {
            if (place >= 0 && place < rows) {
                moveRow(place, rows - 1);
                rows--;
            }
        }

        private void moveRow(int place, int to) {
            for (int i = place; i < to; i++) {
                swapRows(i, i + 1);
            }
            for (int i = place; i > to; i--) {
                swapRows(i, i - 1);
            }
        }

        private void swapRows(int one, int other) {
            if (one < 0 || other < 0 || one >= rows || other >= rows) {
                return;
            }
            swap(keys, one, other);
            for (int column = 0; column < COLUMNS; column++) {
                int oneCell = one * COLUMNS + column;
                int otherCell = other * COLUMNS + column;
                swap(kinds, oneCell, otherCell);
                swap(numbers, oneCell, otherCell);
                swap(notes, oneCell, otherCell);
                Formula formula = formulas[oneCell];
                formulas[oneCell] = formulas[otherCell];
                formulas[otherCell] = formula;
            }
        }

        private static void swap(int[] items, int one, int other) {
            int item = items[one];
            items[one] = items[other];
            items[other] = item;
        }

        private int fillBelow(int place, int column, int n) {
            int filled = Math.min(n, rows - 1 - place);
            int kind = kindAt(place, column);
            int number = numberAt(place, column);
            Formula formula = formulaAt(place, column);
            for (int down = 1; down <= filled; down++) {
                setContent(place + down, column, kind, number, formula == null ? null : formula.lowered(this, down));
            }
            return filled;
        }

        private int keyBelow(int key, int down) {
            int place = placeOf(key);
            return place == NONE ? NO_KEY : keyAt(place + down);
        }

        private boolean isAlike(int place, int column, Grid other, int otherPlace) {
            int kind = kindAt(place, column);
            if (kind != other.kindAt(otherPlace, column)) {
                return false;
            }
            if (kind != FORMULA) {
                return numberAt(place, column) == other.numberAt(otherPlace, column);
            }
            Formula one = formulaAt(place, column);
            Formula two = other.formulaAt(otherPlace, column);
            return one != null && two != null && one.isAlike(two);
        }

        private boolean isRowAlike(int place, Grid other, int otherPlace) {
            for (int column = 0; column < COLUMNS; column++) {
                if (!isAlike(place, column, other, otherPlace)
                        || noteAt(place, column) != other.noteAt(otherPlace, column)) {
                    return false;
                }
            }
            return true;
        }

        private int unlikeCells(Grid other) {
            int found = 0;
            for (int cell = 0; cell < rows * COLUMNS; cell++) {
                int place = cell / COLUMNS;
                if (!isAlike(place, cell % COLUMNS, other, other.placeOf(keyAt(place)))) {
                    found++;
                }
            }
            return found;
        }

        private void printCell(int place, int column, StringBuilder out) {
            Formula formula = formulaAt(place, column);
            if (formula != null) {
                formula.printTo(out, this);
            } else if (kindAt(place, column) == NUMBER) {
                out.append(numberAt(place, column));
            }
        }
    }

    /** A FORMULA, never changed once it is made, so that GRIDS can share it. */
    private static final class Formula {
        /** Kinds of its TOKENS, a REF being one of them; what a NUMBER is or which column a REF has; KEYS of REFS. */
        private final int[] tokens;
        private final int[] figures;
        private final int[] keys;
        /** Places in tokens, each behind those that it works upon: so a VALUE needs no recursion in a FORMULA. */
        private final int[] order;

        private Formula(int[] tokens, int[] figures, int[] keys, int[] order) {
            this.tokens = tokens;
            this.figures = figures;
            this.keys = keys;
            this.order = order;
        }

        private boolean isAlike(Formula other) {
            if (tokens.length != other.tokens.length) {
                return false;
            }
            for (int i = 0; i < tokens.length; i++) {
                if (!isTokenAlike(other, i)) {
                    return false;
                }
            }
            return true;
        }

        private boolean isTokenAlike(Formula other, int i) {
            if (tokens[i] != other.tokens[i] || keys[i] != other.keys[i]) {
                return false;
            }
            boolean isToNoKey = tokens[i] == REF && keys[i] == NO_KEY;
            return isToNoKey || figures[i] == other.figures[i];
        }

        private Formula lowered(Grid grid, int down) {
            int[] lower = Arrays.copyOf(keys, keys.length);
            for (int i = 0; i < lower.length; i++) {
                if (tokens[i] == REF) {
                    lower[i] = grid.keyBelow(keys[i], down);
                }
            }
            return new Formula(tokens, figures, lower, order);
        }

        private void printTo(StringBuilder out, Grid grid) {
            out.append('=');
            for (int i = 0; i < tokens.length; i++) {
                switch (tokens[i]) {
                    case DIGITS:
                        out.append(figures[i]);
                        break;
                    case REF:
                    case STAYING_REF:
                        printRef(out, i, grid.placeOf(keys[i]));
                        break;
                    default:
                        printSign(out, tokens[i]);
                        break;
                }
            }
        }

        private void printRef(StringBuilder out, int i, int place) {
            if (place == NONE) {
                out.append('#');
                return;
            }
            if (tokens[i] == STAYING_REF) {
                out.append('$');
            }
            out.append((char) ('a' + figures[i])).append(place + 1);
        }

        private static void printSign(StringBuilder out, int token) {
            switch (token) {
                case TOTAL:
                    out.append("total");
                    break;
                case MOST:
                    out.append("most");
                    break;
                case LEAST:
                    out.append("least");
                    break;
                case MANY:
                    out.append("many");
                    break;
                case NEGATIVE:
                    out.append('-');
                    break;
                default:
                    out.append((char) token);
                    break;
            }
        }
    }

    /** THE TAPE, and the TOKENS that were found in it, END behind the last one. */
    private static final class Tape {
        private final int[] bytes = new int[TAPE_SIZE];
        private int size;
        private int next;
        private final int[] tokens = new int[TAPE_SIZE + 1];
        private final int[] starts = new int[TAPE_SIZE + 1];
        private final int[] figures = new int[TAPE_SIZE + 1];
        private int at;

        private boolean hasRoom(int n) {
            return n <= TAPE_SIZE - size;
        }

        private void add(int v) {
            if (size < TAPE_SIZE) {
                bytes[size] = v;
                size++;
            }
        }

        private void clear() {
            size = 0;
        }

        private int token() {
            return tokens[at];
        }

        private int figure() {
            return figures[at];
        }

        private int start() {
            return starts[at];
        }

        private void advance() {
            if (at < TAPE_SIZE) {
                at++;
            }
        }

        private void findTokens() {
            at = 0;
            next = 0;
            boolean isMore = true;
            for (int i = 0; i < tokens.length && isMore; i++) {
                scanToken(i);
                isMore = tokens[i] != END;
            }
        }

        private void scanToken(int i) {
            while (next < size && isBlank(bytes[next])) {
                next++;
            }
            starts[i] = next;
            figures[i] = 0;
            if (next >= size) {
                tokens[i] = END;
            } else if (isDigit(bytes[next])) {
                scanNumber(i);
            } else if (isLetter(bytes[next])) {
                scanWord(i);
            } else {
                tokens[i] = signOf(bytes[next]);
                next++;
            }
        }

        private static boolean isBlank(int v) {
            return v == ' ' || v == '\n';
        }

        private static boolean isDigit(int v) {
            return v >= '0' && v <= '9';
        }

        private static boolean isLetter(int v) {
            return v >= 'a' && v <= 'z';
        }

        private void scanNumber(int i) {
            while (next < size && isDigit(bytes[next])) {
                figures[i] = figures[i] * 10 + bytes[next] - '0';
                next++;
            }
            tokens[i] = next - starts[i] > MAX_DIGITS ? UNFIT : DIGITS;
        }

        private void scanWord(int i) {
            int first = next;
            while (next < size && isLetter(bytes[next])) {
                next++;
            }
            if (next - first == 1 && bytes[first] < 'a' + COLUMNS) {
                tokens[i] = COLUMN;
                figures[i] = bytes[first] - 'a';
            } else {
                tokens[i] = reads("total", first) ? TOTAL : reads("most", first) ? MOST
                        : reads("least", first) ? LEAST : reads("many", first) ? MANY : UNFIT;
            }
        }

        private boolean reads(String word, int first) {
            if (next - first != word.length()) {
                return false;
            }
            for (int i = 0; i < word.length(); i++) {
                if (bytes[first + i] != word.charAt(i)) {
                    return false;
                }
            }
            return true;
        }

        private static int signOf(int v) {
            switch (v) {
                case EQUALS:
                case PLUS:
                case MINUS:
                case TIMES:
                case OPEN:
                case CLOSE:
                case COLON:
                case DOLLAR:
                case HASH:
                    return v;
                default:
                    return UNFIT;
            }
        }
    }

    /**
     * Reads THE TAPE as a TEXT. Whatever refuses a TOKEN leaves THE TAPE at it: so its start is the FAULT's
     * place, and nothing has to carry that up.
     */
    private static final class TextReader {
        private final Tape tape;
        private Grid grid;
        private int kind;
        private int number;
        private final int[] tokens = new int[TAPE_SIZE];
        private final int[] figures = new int[TAPE_SIZE];
        private final int[] keys = new int[TAPE_SIZE];
        private int size;
        private final int[] order = new int[TAPE_SIZE];
        private int ordered;

        private TextReader(Tape tape) {
            this.tape = tape;
        }

        private boolean read(Grid written) {
            grid = written;
            number = 0;
            size = 0;
            ordered = 0;
            tape.findTokens();
            if (tape.token() == END) {
                kind = EMPTY;
                return true;
            }
            if (tape.token() == EQUALS) {
                kind = FORMULA;
                tape.advance();
                return readSum(0) && tape.token() == END;
            }
            kind = NUMBER;
            return readNumber() && tape.token() == END;
        }

        private Formula formula() {
            if (kind != FORMULA) {
                return null;
            }
            return new Formula(Arrays.copyOf(tokens, size), Arrays.copyOf(figures, size), Arrays.copyOf(keys, size),
                    Arrays.copyOf(order, ordered));
        }

        private boolean readNumber() {
            boolean isBelow = tape.token() == MINUS;
            if (isBelow) {
                tape.advance();
            }
            if (tape.token() != DIGITS) {
                return false;
            }
            number = isBelow ? -tape.figure() : tape.figure();
            tape.advance();
            return true;
        }

        private boolean readSum(int within) {
            if (!readPart(within)) {
                return false;
            }
            for (int i = 0; i < TAPE_SIZE && (tape.token() == PLUS || tape.token() == MINUS); i++) {
                int sign = keepToken(tape.token(), 0, NO_KEY);
                if (!readPart(within)) {
                    return false;
                }
                workOut(sign);
            }
            return true;
        }

        private boolean readPart(int within) {
            if (!readOne(within)) {
                return false;
            }
            for (int i = 0; i < TAPE_SIZE && tape.token() == TIMES; i++) {
                int sign = keepToken(TIMES, 0, NO_KEY);
                if (!readOne(within)) {
                    return false;
                }
                workOut(sign);
            }
            return true;
        }

        private boolean readOne(int within) {
            switch (tape.token()) {
                case DIGITS:
                    workOut(keepToken(DIGITS, tape.figure(), NO_KEY));
                    return true;
                case MINUS:
                    return within < MAX_WITHIN && readNegative(within + 1);
                case OPEN:
                    return within < MAX_WITHIN && readBracket(within + 1);
                case TOTAL:
                case MOST:
                case LEAST:
                case MANY:
                    return readRange();
                default:
                    workOut(size);
                    return readRef();
            }
        }

        private boolean readNegative(int within) {
            int sign = keepToken(NEGATIVE, 0, NO_KEY);
            if (!readOne(within)) {
                return false;
            }
            workOut(sign);
            return true;
        }

        private boolean readBracket(int within) {
            keepToken(OPEN, 0, NO_KEY);
            return readSum(within) && readSign(CLOSE);
        }

        /** Its two REFS stand 2 and 4 TOKENS behind the WORD: there Asking finds them. */
        private boolean readRange() {
            workOut(keepToken(tape.token(), 0, NO_KEY));
            return readSign(OPEN) && readRef() && readSign(COLON) && readRef() && readSign(CLOSE);
        }

        private boolean readSign(int sign) {
            if (tape.token() != sign) {
                return false;
            }
            keepToken(sign, 0, NO_KEY);
            return true;
        }

        private boolean readRef() {
            if (tape.token() == HASH) {
                keepToken(REF, 0, NO_KEY);
                return true;
            }
            int ref = tape.token() == DOLLAR ? STAYING_REF : REF;
            if (ref == STAYING_REF) {
                tape.advance();
            }
            if (tape.token() != COLUMN) {
                return false;
            }
            int column = tape.figure();
            tape.advance();
            int key = tape.token() == DIGITS ? grid.keyAt(tape.figure() - 1) : NO_KEY;
            if (key == NO_KEY) {
                return false;
            }
            keepToken(ref, column, key);
            return true;
        }

        /** Its place; THE TAPE goes on to the next TOKEN. */
        private int keepToken(int token, int figure, int key) {
            int place = size;
            if (place < TAPE_SIZE) {
                tokens[place] = token;
                figures[place] = figure;
                keys[place] = key;
                size++;
            }
            tape.advance();
            return place;
        }

        private void workOut(int place) {
            if (ordered < TAPE_SIZE) {
                order[ordered] = place;
                ordered++;
            }
        }
    }

    /** VALUES of CELLS of a GRID, each asked once in one asking. The first that is wrong ends the asking. */
    private static final class Asking {
        private static final int BEING_ASKED = 1, ASKED = 2;

        private Grid grid;
        private int wrong;
        private final int[] states = new int[CELLS];
        private final int[] values = new int[CELLS];
        /** Of all CELLS that are being asked: none puts more upon it than it has TOKENS. */
        private final int[] stack = new int[CELLS * TAPE_SIZE];
        private int height;

        /** 0, if it is wrong: then wrong says by what. */
        private int valueOf(Grid asked, int place, int column) {
            grid = asked;
            wrong = 0;
            height = 0;
            Arrays.fill(states, 0);
            return ask(place, column, 0);
        }

        private int ask(int place, int column, int depth) {
            int cell = grid.cellAt(place, column);
            if (cell == NONE) {
                return 0;
            }
            if (states[cell] == BEING_ASKED || depth > CELLS) {
                wrong = RING;
                return 0;
            }
            if (states[cell] != ASKED) {
                states[cell] = BEING_ASKED;
                Formula formula = grid.formulas[cell];
                values[cell] = formula == null ? grid.numbers[cell] : workOut(formula, depth);
                states[cell] = ASKED;
            }
            return values[cell];
        }

        private int workOut(Formula formula, int depth) {
            int bottom = height;
            for (int i = 0; i < formula.order.length && wrong == 0; i++) {
                int at = formula.order[i];
                if (at >= 0 && at < formula.tokens.length) {
                    step(formula, at, depth);
                }
            }
            int found = wrong == 0 && height > bottom ? pop() : 0;
            height = bottom;
            return found;
        }

        private void step(Formula formula, int at, int depth) {
            switch (formula.tokens[at]) {
                case DIGITS:
                    push(formula.figures[at]);
                    break;
                case REF:
                case STAYING_REF:
                    push(askRef(formula, at, depth));
                    break;
                case NEGATIVE:
                    push(-pop());
                    break;
                case PLUS:
                    push(pop() + pop());
                    break;
                case MINUS:
                    push(-pop() + pop());
                    break;
                case TIMES:
                    push(pop() * pop());
                    break;
                default:
                    push(askRange(formula, at, depth));
                    break;
            }
        }

        private void push(int v) {
            if (height < stack.length) {
                stack[height] = v;
                height++;
            }
        }

        private int pop() {
            if (height < 1) {
                return 0;
            }
            height--;
            return stack[height];
        }

        private int askRef(Formula formula, int at, int depth) {
            int place = grid.placeOf(formula.keys[at]);
            if (place == NONE) {
                wrong = LOST;
                return 0;
            }
            return ask(place, formula.figures[at], depth + 1);
        }

        private int askRange(Formula formula, int at, int depth) {
            int one = at + 2;
            int two = at + 4;
            if (two >= formula.tokens.length) {
                return 0;
            }
            int onePlace = grid.placeOf(formula.keys[one]);
            int twoPlace = grid.placeOf(formula.keys[two]);
            if (onePlace == NONE || twoPlace == NONE) {
                wrong = LOST;
                return 0;
            }
            int left = Math.min(formula.figures[one], formula.figures[two]);
            int right = Math.max(formula.figures[one], formula.figures[two]);
            int word = formula.tokens[at];
            int found = word == MOST ? LEAST_INT : word == LEAST ? GREATEST_INT : 0;
            for (int place = Math.min(onePlace, twoPlace); place <= Math.max(onePlace, twoPlace); place++) {
                for (int column = left; column <= right && wrong == 0; column++) {
                    found = word == MANY ? found + (grid.kindAt(place, column) == EMPTY ? 0 : 1)
                            : joined(word, found, ask(place, column, depth + 1));
                }
            }
            return found;
        }

        private static int joined(int word, int one, int other) {
            return word == MOST ? Math.max(one, other) : word == LEAST ? Math.min(one, other) : one + other;
        }
    }

    /** What merge() would make of three GRIDS, and its CLASHES; the GRIDS stay as they are. */
    private static final class Merging {
        private final Grid merged = new Grid();
        private final Clashes clashes = new Clashes();
        private Grid base;
        private Grid mine;
        private Grid theirs;
        private Rules rules;
        /** The KEY that is merged, and where each GRID has it. */
        private int key;
        private int inBase;
        private int inMine;
        private int inTheirs;
        private int inMerged;

        /** Whether the ROWS have room. */
        private boolean make(Grid ofBase, Grid ofMine, Grid ofTheirs, Rules by) {
            base = ofBase;
            mine = ofMine;
            theirs = ofTheirs;
            rules = by;
            merged.rows = 0;
            clashes.clear();
            placeRowsOfMine();
            if (!placeRowsOfTheirs()) {
                return false;
            }
            for (int k = 1; k <= MAX_KEY; k++) {
                if (merged.placeOf(k) != NONE) {
                    lookUp(k);
                    mergeRow();
                }
            }
            return true;
        }

        private void lookUp(int k) {
            key = k;
            inBase = base.placeOf(k);
            inMine = mine.placeOf(k);
            inTheirs = theirs.placeOf(k);
            inMerged = merged.placeOf(k);
        }

        private void placeRowsOfMine() {
            for (int i = 0; i < mine.rows; i++) {
                lookUp(mine.keyAt(i));
                if (inTheirs != NONE || inBase == NONE || !base.isRowAlike(inBase, mine, inMine)) {
                    merged.insertRow(merged.rows, key);
                }
            }
        }

        private boolean placeRowsOfTheirs() {
            int behind = 0;
            for (int i = 0; i < theirs.rows; i++) {
                lookUp(theirs.keyAt(i));
                if (inMine == NONE && (inBase == NONE || !base.isRowAlike(inBase, theirs, inTheirs))) {
                    if (merged.rows >= MAX_ROWS) {
                        return false;
                    }
                    merged.insertRow(behind, key);
                }
                inMerged = merged.placeOf(key);
                behind = inMerged == NONE ? behind : inMerged + 1;
            }
            return true;
        }

        private void mergeRow() {
            if (inMine == NONE || inTheirs == NONE) {
                if (inMine == NONE) {
                    merged.rowAsIn(theirs, inTheirs, inMerged);
                } else {
                    merged.rowAsIn(mine, inMine, inMerged);
                }
                if (inBase != NONE) {
                    clashes.add(ROW_CLASH, key, NONE);
                }
                return;
            }
            for (int column = 0; column < COLUMNS; column++) {
                mergeContent(column);
                mergeNote(column);
            }
        }

        private void mergeContent(int column) {
            if (mine.isAlike(inMine, column, theirs, inTheirs) || base.isAlike(inBase, column, theirs, inTheirs)) {
                merged.contentAsIn(mine, inMine, inMerged, column);
            } else if (base.isAlike(inBase, column, mine, inMine)) {
                merged.contentAsIn(theirs, inTheirs, inMerged, column);
            } else {
                mergeChanged(column, areNumbers(column));
            }
        }

        private boolean areNumbers(int column) {
            return mine.kindAt(inMine, column) == NUMBER && theirs.kindAt(inTheirs, column) == NUMBER;
        }

        /** Both are CHANGED to unlike ones. */
        private void mergeChanged(int column, boolean areNumbers) {
            int own = mine.numberAt(inMine, column);
            int other = theirs.numberAt(inTheirs, column);
            if (areNumbers && rules.isOf(column, ADDING) && base.kindAt(inBase, column) != FORMULA) {
                int sum = own + other - base.numberAt(inBase, column);
                int cap = rules.isOf(column, CAPPED) ? rules.figures[column] : GREATEST_INT;
                merged.setContent(inMerged, column, NUMBER, Math.min(sum, cap), null);
                return;
            }
            clashes.add(CONTENT_CLASH, key, column);
            if (rules.isOf(column, BACK)) {
                merged.contentAsIn(base, inBase, inMerged, column);
            } else if (rules.isOf(column, OTHER) || rules.isOf(column, GREATER) && areNumbers && other > own) {
                merged.contentAsIn(theirs, inTheirs, inMerged, column);
            } else {
                merged.contentAsIn(mine, inMine, inMerged, column);
            }
        }

        private void mergeNote(int column) {
            int before = base.noteAt(inBase, column);
            int own = mine.noteAt(inMine, column);
            int other = theirs.noteAt(inTheirs, column);
            if (own == other || other == before) {
                merged.setNote(inMerged, column, own);
            } else if (own == before) {
                merged.setNote(inMerged, column, other);
            } else {
                merged.setNote(inMerged, column, Math.max(own, other));
                clashes.add(NOTE_CLASH, key, column);
            }
        }
    }

    private static final class Clashes {
        private int size;
        private final int[] kinds = new int[MAX_CLASHES];
        private final int[] keys = new int[MAX_CLASHES];
        private final int[] columns = new int[MAX_CLASHES];
        private final int[] settled = new int[MAX_CLASHES];

        private boolean has(int i) {
            return i >= 0 && i < size;
        }

        private void clear() {
            size = 0;
        }

        private void add(int kind, int key, int column) {
            if (size < MAX_CLASHES) {
                kinds[size] = kind;
                keys[size] = key;
                columns[size] = column;
                settled[size] = 0;
                size++;
            }
        }

        private void become(Clashes other) {
            clear();
            for (int i = 0; i < other.size; i++) {
                add(other.kinds[i], other.keys[i], other.columns[i]);
            }
        }

        private int unsettled() {
            int found = 0;
            for (int i = 0; i < size; i++) {
                found += settled[i] == 0 ? 1 : 0;
            }
            return found;
        }
    }

    /** RULES of the columns. */
    private static final class Rules {
        /** Which KIND each KIND is under. */
        private static final int[] ABOVE = {NONE, 0, 0, 2, 3, 1};

        private final int[] kinds = new int[COLUMNS];
        private final int[] figures = new int[COLUMNS];

        private boolean isOf(int column, int kind) {
            int k = kinds[column];
            for (int i = 0; i < RULE_KINDS && isRuleKind(k); i++) {
                if (k == kind) {
                    return true;
                }
                k = ABOVE[k];
            }
            return false;
        }

        private void become(Rules other) {
            System.arraycopy(other.kinds, 0, kinds, 0, COLUMNS);
            System.arraycopy(other.figures, 0, figures, 0, COLUMNS);
        }
    }

    /** All that AN IMAGE keeps: GRIDS, RULES, and GRIDS as they were ahead of the latest CHANGES. */
    private static final class Board {
        private final Grid base = new Grid();
        private final Grid mine = new Grid();
        private final Grid theirs = new Grid();
        private final Grid merged = new Grid();
        private final Rules rules = new Rules();
        private final Grid[] before = new Grid[MAX_CHANGES * INPUTS];
        /** Where the next CHANGE comes in before, as a ring. */
        private int nextChange;
        private int changes;

        private Board() {
            for (int i = 0; i < before.length; i++) {
                before[i] = new Grid();
            }
        }

        private Grid gridAt(int grid) {
            return grid == BASE ? base : grid == MINE ? mine : grid == THEIRS ? theirs : merged;
        }

        private void keepForUndo() {
            for (int g = 0; g < INPUTS; g++) {
                before[nextChange * INPUTS + g].become(gridAt(g));
            }
            nextChange = (nextChange + 1) % MAX_CHANGES;
            changes = Math.min(changes + 1, MAX_CHANGES);
        }

        /** Whether there was a CHANGE to be UNDONE. */
        private boolean undoLatest() {
            if (changes < 1) {
                return false;
            }
            changes--;
            nextChange = (nextChange + MAX_CHANGES - 1) % MAX_CHANGES;
            for (int g = 0; g < INPUTS; g++) {
                gridAt(g).become(before[nextChange * INPUTS + g]);
            }
            return true;
        }

        private void mergedAsIn(Grid settler, int clash, int key, int column) {
            int place = merged.placeOf(key);
            int there = settler.placeOf(key);
            if (clash == CONTENT_CLASH) {
                merged.contentAsIn(settler, there, place, column);
            } else if (clash == NOTE_CLASH) {
                merged.setNote(place, column, settler.noteAt(there, column));
            } else if (there == NONE) {
                merged.removeRow(place);
            } else {
                merged.rowAsIn(settler, there, place);
            }
        }

        private void become(Board other) {
            for (int g = 0; g < GRIDS; g++) {
                gridAt(g).become(other.gridAt(g));
            }
            rules.become(other.rules);
            for (int i = 0; i < before.length; i++) {
                before[i].become(other.before[i]);
            }
            nextChange = other.nextChange;
            changes = other.changes;
        }
    }

    /** A row of numbers, or missing. */
    private static final class Sheet {
        private int sort = NONE;
        private int size;
        private final int[] items = new int[MAX_ITEMS];

        private boolean isMissing() {
            return sort == NONE;
        }

        private boolean hasItems(int i, int n) {
            return i >= 0 && n >= 0 && i <= size - n;
        }

        private void become(int newSort, int newSize) {
            sort = newSort;
            size = newSize;
            Arrays.fill(items, 0);
        }

        private void set(int i, int v) {
            if (hasItems(i, 1)) {
                items[i] = sort == SHORTS ? (short) v : v;
            }
        }
    }
}
