import java.util.ArrayList;
import java.util.Arrays;
import java.util.HashMap;
import java.util.HashSet;
import java.util.LinkedHashMap;
import java.util.List;
import java.util.Map;
import java.util.Set;
import java.util.TreeMap;
import java.util.regex.Matcher;
import java.util.regex.Pattern;

/** The document once more, written with no care for room: what ModelTest holds GridMerger against. */
final class Model {
    private record Ref(int key, int column, boolean stays) {
        boolean isAlike(Ref o) {
            return key == 0 && o.key == 0 || key == o.key && column == o.column && stays == o.stays;
        }
    }

    /** content: null, an Integer, or a List of Strings, Integers and Refs. */
    private record Cell(Object content, int note) { }

    private record Row(int key, List<Cell> cells) {
        Row with(int column, Cell cell) {
            List<Cell> changed = new ArrayList<>(cells);
            changed.set(column, cell);
            return new Row(key, changed);
        }
    }

    private record Rule(int kind, int figure) { }

    private record Clash(int which, int key, int column, boolean settled) { }

    private record Merged(List<Row> rows, List<Clash> clashes) { }

    private record Kept(List<List<Row>> grids, List<Rule> rules, List<List<List<Row>>> history) { }

    private static final class Fault extends RuntimeException {
        final int place;

        Fault(int place) {
            this.place = place;
        }
    }

    private static final class Wrong extends RuntimeException {
        final int by;

        Wrong(int by) {
            this.by = by;
        }
    }

    private static final Cell NOTHING = new Cell(null, 0);

    private List<List<Row>> grids = new ArrayList<>(List.of(List.of(), List.of(), List.of(), List.of()));
    private List<Rule> rules = new ArrayList<>(List.of(new Rule(0, 0), new Rule(0, 0), new Rule(0, 0)));
    private List<List<List<Row>>> history = new ArrayList<>();
    private List<Clash> clashes = new ArrayList<>();
    private boolean merged;
    private String tape = "";
    private Kept kept;
    private final int[][] sheets = new int[4][];
    private final int[] sorts = new int[4];

    // ---- what changes

    private void change(int grid, List<Row> rows) {
        history.add(new ArrayList<>(grids.subList(0, 3)));
        if (history.size() > 6) {
            history.remove(0);
        }
        grids.set(grid, rows);
        clashes = new ArrayList<>();
        merged = false;
    }

    private void changeRow(int grid, int place, Row row) {
        List<Row> rows = new ArrayList<>(grids.get(grid));
        rows.set(place, row);
        change(grid, rows);
    }

    private boolean isCell(int grid, int row, int column, int grids) {
        return grid >= 0 && grid < grids && row >= 0 && row < this.grids.get(grid).size() && column >= 0 && column < 3;
    }

    private static int placeOf(List<Row> rows, int key) {
        for (int i = 0; i < rows.size(); i++) {
            if (rows.get(i).key == key) {
                return i;
            }
        }
        return -1;
    }

    int feed(int n, int... bytes) {
        boolean good = n >= 1 && n <= 5 && Arrays.stream(bytes).allMatch(v -> v >= 0 && v <= 255);
        if (!good) {
            return -2;
        }
        if (tape.length() + n > 40) {
            return -4;
        }
        for (int i = 0; i < n; i++) {
            tape += (char) bytes[i];
        }
        return tape.length();
    }

    int write(int grid, int row, int column) {
        if (!isCell(grid, row, column, 3)) {
            return -2;
        }
        String text = tape;
        tape = "";
        Object content;
        try {
            content = new Parser(text, grids.get(grid)).text();
        } catch (Fault f) {
            return -100 - f.place;
        }
        Row old = grids.get(grid).get(row);
        changeRow(grid, row, old.with(column, new Cell(content, old.cells.get(column).note)));
        return kind(content);
    }

    private static int kind(Object content) {
        return content == null ? 0 : content instanceof Integer ? 1 : 2;
    }

    int row(int grid, int at, int key) {
        if (grid < 0 || grid > 2 || at < 0 || at > grids.get(grid).size() || key < 1 || key > 99) {
            return -2;
        }
        if (placeOf(grids.get(grid), key) >= 0) {
            return -3;
        }
        if (grids.get(grid).size() == 8) {
            return -4;
        }
        List<Row> rows = new ArrayList<>(grids.get(grid));
        rows.add(at, new Row(key, List.of(NOTHING, NOTHING, NOTHING)));
        change(grid, rows);
        return rows.size();
    }

    int drop(int grid, int row) {
        if (!isCell(grid, row, 0, 3)) {
            return -2;
        }
        List<Row> rows = new ArrayList<>(grids.get(grid));
        Row gone = rows.remove(row);
        change(grid, rows);
        return gone.key;
    }

    int move(int grid, int row, int to) {
        if (!isCell(grid, row, 0, 3) || !isCell(grid, to, 0, 3)) {
            return -2;
        }
        List<Row> rows = new ArrayList<>(grids.get(grid));
        Row moved = rows.remove(row);
        rows.add(to, moved);
        change(grid, rows);
        return moved.key;
    }

    int note(int grid, int row, int column, int v) {
        if (!isCell(grid, row, column, 3) || v < 0 || v > 99) {
            return -2;
        }
        Row old = grids.get(grid).get(row);
        Cell cell = old.cells.get(column);
        changeRow(grid, row, old.with(column, new Cell(cell.content, v)));
        return cell.note;
    }

    int fill(int grid, int row, int column, int n) {
        if (!isCell(grid, row, column, 3) || n < 1 || n > 7) {
            return -2;
        }
        List<Row> rows = new ArrayList<>(grids.get(grid));
        Object content = rows.get(row).cells.get(column).content;
        int filled = 0;
        for (int i = row + 1; i <= row + n && i < rows.size(); i++) {
            Cell old = rows.get(i).cells.get(column);
            rows.set(i, rows.get(i).with(column, new Cell(lowered(content, rows, i - row), old.note)));
            filled++;
        }
        change(grid, rows);
        return filled;
    }

    private static Object lowered(Object content, List<Row> rows, int down) {
        if (!(content instanceof List<?> tokens)) {
            return content;
        }
        List<Object> lower = new ArrayList<>();
        for (Object token : tokens) {
            if (token instanceof Ref r && !r.stays) {
                int place = placeOf(rows, r.key);
                boolean lost = place < 0 || place + down >= rows.size();
                lower.add(lost ? new Ref(0, 0, false) : new Ref(rows.get(place + down).key, r.column, false));
            } else {
                lower.add(token);
            }
        }
        return lower;
    }

    int like(int grid, int other) {
        if (grid < 0 || grid > 2 || other < 0 || other > 3 || grid == other) {
            return -2;
        }
        change(grid, grids.get(other));
        return grids.get(grid).size();
    }

    // ---- what is told of cells

    int told(int grid, int row, int column, int what) {
        if (!isCell(grid, row, column, 4) || what < 0 || what > 3) {
            return -2;
        }
        Row asked = grids.get(grid).get(row);
        if (what == 3) {
            try {
                new Asking(grids.get(grid)).ask(row, column);
                return 0;
            } catch (Wrong w) {
                return w.by;
            }
        }
        Cell cell = asked.cells.get(column);
        return what == 0 ? kind(cell.content) : what == 1 ? cell.note : asked.key;
    }

    long value(int grid, int row, int column) {
        return isCell(grid, row, column, 4) ? valueIn(grids.get(grid), row, column) : Long.MIN_VALUE;
    }

    private static long valueIn(List<Row> rows, int row, int column) {
        try {
            return new Asking(rows).ask(row, column);
        } catch (Wrong w) {
            return Long.MIN_VALUE;
        }
    }

    int print(int grid, int row, int column, int k) {
        if (!isCell(grid, row, column, 4)) {
            return -2;
        }
        Object content = grids.get(grid).get(row).cells.get(column).content;
        String text = content == null ? "" : content.toString();
        if (content instanceof List<?> tokens) {
            text = "=";
            for (Object token : tokens) {
                text += token instanceof Ref r ? printed(r, grids.get(grid)) : token.equals("~") ? "-" : token.toString();
            }
        }
        return k == -1 ? text.length() : k < 0 || k >= text.length() ? -12 : text.charAt(k);
    }

    private static String printed(Ref ref, List<Row> rows) {
        int place = placeOf(rows, ref.key);
        return place < 0 ? "#" : (ref.stays ? "$" : "") + "abc".charAt(ref.column) + (place + 1);
    }

    /** A TEXT by its TOKENS; the unary - is ~ among them. */
    private static final class Parser {
        private final List<String> tokens = new ArrayList<>();
        private final List<Integer> places = new ArrayList<>();
        private final List<Row> rows;
        private final List<Object> out = new ArrayList<>();
        private int i;

        Parser(String text, List<Row> rows) {
            this.rows = rows;
            Matcher m = Pattern.compile("[a-z]+|[0-9]+|[^ \n]", Pattern.DOTALL).matcher(text);
            while (m.find()) {
                tokens.add(m.group());
                places.add(m.start());
            }
            tokens.add("end");
            places.add(text.length());
        }

        private boolean is(String regexp) {
            boolean isEnd = i == tokens.size() - 1;
            return isEnd ? regexp.equals("end") : tokens.get(i).matches(regexp);
        }

        private String need(String regexp) {
            if (!is(regexp)) {
                throw new Fault(places.get(i));
            }
            return tokens.get(i++);
        }

        Object text() {
            Object content = null;
            if (is("=")) {
                i++;
                sum(0);
                content = out;
            } else if (!is("end")) {
                int sign = 1;
                if (is("-")) {
                    i++;
                    sign = -1;
                }
                content = sign * Integer.parseInt(need("[0-9]{1,6}"));
            }
            need("end");
            return content;
        }

        private void sum(int within) {
            part(within);
            while (is("[+]|-")) {
                out.add(tokens.get(i++));
                part(within);
            }
        }

        private void part(int within) {
            one(within);
            while (is("[*]")) {
                out.add(tokens.get(i++));
                one(within);
            }
        }

        private void one(int within) {
            if (is("[0-9]{1,6}")) {
                out.add(Integer.parseInt(tokens.get(i++)));
            } else if (is("-") && within < 4) {
                i++;
                out.add("~");
                one(within + 1);
            } else if (is("[(]") && within < 4) {
                out.add(need("[(]"));
                sum(within + 1);
                out.add(need("[)]"));
            } else if (is("total|most|least|many")) {
                out.add(tokens.get(i++));
                out.add(need("[(]"));
                ref();
                out.add(need(":"));
                ref();
                out.add(need("[)]"));
            } else {
                ref();
            }
        }

        private void ref() {
            if (is("#")) {
                i++;
                out.add(new Ref(0, 0, false));
                return;
            }
            boolean stays = is("[$]");
            i += stays ? 1 : 0;
            int column = need("[abc]").charAt(0) - 'a';
            int place = is("[0-9]{1,6}") ? Integer.parseInt(tokens.get(i)) : 0;
            if (place < 1 || place > rows.size()) {
                throw new Fault(places.get(i));
            }
            i++;
            out.add(new Ref(rows.get(place - 1).key, column, stays));
        }
    }

    private static final class Asking {
        private final List<Row> rows;
        private final Map<Integer, Integer> known = new HashMap<>();
        private final Set<Integer> asked = new HashSet<>();

        Asking(List<Row> rows) {
            this.rows = rows;
        }

        int ask(int row, int column) {
            int name = row * 3 + column;
            if (known.containsKey(name)) {
                return known.get(name);
            }
            if (!asked.add(name)) {
                throw new Wrong(-6);
            }
            Object content = rows.get(row).cells.get(column).content;
            int value = content == null ? 0 : content instanceof Integer v ? v : new Working((List<?>) content).sum();
            known.put(name, value);
            return value;
        }

        private final class Working {
            private final List<?> tokens;
            private int i;

            Working(List<?> tokens) {
                this.tokens = tokens;
            }

            private boolean is(String sign) {
                return i < tokens.size() && tokens.get(i).equals(sign);
            }

            int sum() {
                int value = part();
                while (is("+") || is("-")) {
                    int sign = is("+") ? 1 : -1;
                    i++;
                    value += sign * part();
                }
                return value;
            }

            private int part() {
                int value = one();
                while (is("*")) {
                    i++;
                    value *= one();
                }
                return value;
            }

            private int one() {
                Object token = tokens.get(i++);
                if (token instanceof Integer v) {
                    return v;
                }
                if (token instanceof Ref r) {
                    int place = found(r);
                    return ask(place, r.column);
                }
                if (token.equals("~")) {
                    return -one();
                }
                if (token.equals("(")) {
                    int value = sum();
                    i++;
                    return value;
                }
                int at = i;
                i += 5;
                return range((String) token, (Ref) tokens.get(at + 1), (Ref) tokens.get(at + 3));
            }

            private int found(Ref r) {
                int place = placeOf(rows, r.key);
                if (place < 0) {
                    throw new Wrong(-5);
                }
                return place;
            }

            private int range(String word, Ref one, Ref two) {
                int from = found(one);
                int to = found(two);
                List<Integer> values = new ArrayList<>();
                int many = 0;
                for (int r = Math.min(from, to); r <= Math.max(from, to); r++) {
                    for (int c = Math.min(one.column, two.column); c <= Math.max(one.column, two.column); c++) {
                        many += rows.get(r).cells.get(c).content == null ? 0 : 1;
                        if (!word.equals("many")) {
                            values.add(ask(r, c));
                        }
                    }
                }
                switch (word) {
                    case "many":
                        return many;
                    case "total":
                        return values.stream().mapToInt(v -> v).sum();
                    case "most":
                        return values.stream().mapToInt(v -> v).max().getAsInt();
                    default:
                        return values.stream().mapToInt(v -> v).min().getAsInt();
                }
            }
        }
    }

    // ---- merging

    int rule(int column, int kind, int figure) {
        if (column < 0 || column > 2 || kind < 0 || kind > 5 || figure < 0 || figure > 99) {
            return -2;
        }
        Rule old = rules.set(column, new Rule(kind, figure));
        return old.kind * 10 + old.figure;
    }

    int taken(int column, int k) {
        if (column < 0 || column > 2 || k < 0 || k > 5) {
            return -2;
        }
        Rule rule = rules.get(column);
        String[] under = {"0", "01", "02", "023", "0234", "015"};
        return under[rule.kind].indexOf('0' + k) >= 0 ? rule.figure : -13;
    }

    private static boolean alike(Object one, Object two) {
        if (!(one instanceof List<?> a) || !(two instanceof List<?> b)) {
            return one == null ? two == null : one.equals(two);
        }
        if (a.size() != b.size()) {
            return false;
        }
        for (int i = 0; i < a.size(); i++) {
            boolean same = a.get(i) instanceof Ref r && b.get(i) instanceof Ref s ? r.isAlike(s)
                    : a.get(i).equals(b.get(i));
            if (!same) {
                return false;
            }
        }
        return true;
    }

    private static Map<Integer, Row> byKey(List<Row> rows) {
        Map<Integer, Row> map = new LinkedHashMap<>();
        for (Row row : rows) {
            map.put(row.key, row);
        }
        return map;
    }

    private static Cell cellOf(Row row, int column) {
        return row == null ? NOTHING : row.cells.get(column);
    }

    private static boolean isChanged(Row row, Row base) {
        for (int c = 0; c < 3; c++) {
            if (!alike(cellOf(row, c).content, cellOf(base, c).content) || cellOf(row, c).note != cellOf(base, c).note) {
                return true;
            }
        }
        return false;
    }

    /** null: FULL. */
    private static Merged made(List<Row> base, List<Row> mine, List<Row> theirs, List<Rule> rules) {
        Map<Integer, Row> inBase = byKey(base);
        Map<Integer, Row> inMine = byKey(mine);
        Map<Integer, Row> inTheirs = byKey(theirs);
        TreeMap<Integer, Row> rows = new TreeMap<>();
        List<Clash> clashes = new ArrayList<>();
        for (int key = 1; key <= 99; key++) {
            Row b = inBase.get(key);
            Row m = inMine.get(key);
            Row t = inTheirs.get(key);
            if (m != null && t != null) {
                rows.put(key, mergedRow(b, m, t, rules, clashes));
            } else if (m != null || t != null) {
                Row alone = m != null ? m : t;
                if (b == null || isChanged(alone, b)) {
                    rows.put(key, alone);
                    if (b != null) {
                        clashes.add(new Clash(2, key, -1, false));
                    }
                }
            }
        }
        if (rows.size() > 8) {
            return null;
        }
        List<Row> order = new ArrayList<>();
        for (Row row : mine) {
            if (rows.containsKey(row.key)) {
                order.add(rows.get(row.key));
            }
        }
        for (int i = 0; i < theirs.size(); i++) {
            int key = theirs.get(i).key;
            if (rows.containsKey(key) && !inMine.containsKey(key)) {
                int nearest = -1;
                for (int j = i - 1; j >= 0 && nearest < 0; j--) {
                    nearest = placeOf(order, theirs.get(j).key);
                }
                order.add(nearest + 1, rows.get(key));
            }
        }
        return new Merged(order, clashes);
    }

    private static Row mergedRow(Row b, Row m, Row t, List<Rule> rules, List<Clash> clashes) {
        List<Cell> cells = new ArrayList<>();
        for (int c = 0; c < 3; c++) {
            Object base = cellOf(b, c).content;
            Object mine = m.cells.get(c).content;
            Object theirs = t.cells.get(c).content;
            Object content = mine;
            if (!alike(mine, theirs) && !alike(theirs, base)) {
                content = theirs;
                if (!alike(mine, base)) {
                    Rule rule = rules.get(c);
                    boolean numbers = mine instanceof Integer && theirs instanceof Integer;
                    boolean adds = rule.kind >= 3 && rule.kind <= 4 && numbers && !(base instanceof List<?>);
                    if (adds) {
                        int sum = (Integer) mine + (Integer) theirs - (base == null ? 0 : (Integer) base);
                        content = rule.kind == 4 && sum > rule.figure ? rule.figure : sum;
                    } else {
                        boolean greater = rule.kind >= 2 && rule.kind <= 4;
                        content = rule.kind == 5 ? base : rule.kind == 1 ? theirs
                                : greater && numbers ? Integer.valueOf(Math.max((Integer) mine, (Integer) theirs)) : mine;
                        clashes.add(new Clash(1, m.key, c, false));
                    }
                }
            }
            int noteBase = cellOf(b, c).note;
            int noteMine = m.cells.get(c).note;
            int noteTheirs = t.cells.get(c).note;
            int note = noteMine == noteTheirs || noteTheirs == noteBase ? noteMine : noteTheirs;
            if (noteMine != noteTheirs && noteMine != noteBase && noteTheirs != noteBase) {
                note = Math.max(noteMine, noteTheirs);
                clashes.add(new Clash(3, m.key, c, false));
            }
            cells.add(new Cell(content, note));
        }
        return new Row(m.key, cells);
    }

    private Merged now(List<Row> mine, List<Row> theirs, List<Rule> by) {
        return made(grids.get(0), mine, theirs, by);
    }

    int merge() {
        Merged made = now(grids.get(1), grids.get(2), rules);
        if (made == null) {
            return -4;
        }
        grids.set(3, made.rows);
        clashes = new ArrayList<>(made.clashes);
        merged = true;
        return clashes.size();
    }

    int clash(int i, int what) {
        if (what < 0 || what > 3) {
            return -2;
        }
        if (i < 0 || i >= clashes.size()) {
            return -12;
        }
        Clash c = clashes.get(i);
        return what == 0 ? c.which : what == 1 ? c.key : what == 2 ? c.column : c.settled ? 1 : 0;
    }

    private int unsettled() {
        return (int) clashes.stream().filter(c -> !c.settled).count();
    }

    int settle(int i, int by) {
        if (by < 0 || by > 2) {
            return -2;
        }
        if (i < 0 || i >= clashes.size()) {
            return -12;
        }
        Clash c = clashes.get(i);
        if (c.settled) {
            return -3;
        }
        clashes.set(i, new Clash(c.which, c.key, c.column, true));
        Row there = byKey(grids.get(new int[] {1, 2, 0}[by])).get(c.key);
        List<Row> rows = new ArrayList<>(grids.get(3));
        int place = placeOf(rows, c.key);
        if (c.which == 2) {
            if (there == null) {
                rows.remove(place);
            } else {
                rows.set(place, there);
            }
        } else {
            Cell cell = rows.get(place).cells.get(c.column);
            Cell theirs = cellOf(there, c.column);
            rows.set(place, rows.get(place).with(c.column, c.which == 1 ? new Cell(theirs.content, cell.note)
                    : new Cell(cell.content, theirs.note)));
        }
        grids.set(3, rows);
        return unsettled();
    }

    int take() {
        if (!merged || unsettled() > 0) {
            return -3;
        }
        change(0, grids.get(3));
        grids.set(1, grids.get(3));
        grids.set(2, grids.get(3));
        return grids.get(3).size();
    }

    int undo() {
        if (history.isEmpty()) {
            return -3;
        }
        List<List<Row>> ahead = history.remove(history.size() - 1);
        for (int g = 0; g < 3; g++) {
            grids.set(g, ahead.get(g));
        }
        clashes = new ArrayList<>();
        merged = false;
        return history.size();
    }

    // ---- in thought

    int exchanged() {
        Merged one = now(grids.get(1), grids.get(2), rules);
        Merged two = now(grids.get(2), grids.get(1), rules);
        if (one == null || two == null) {
            return -4;
        }
        int otherwise = 0;
        Map<Integer, Row> other = byKey(two.rows);
        for (Row row : one.rows) {
            for (int c = 0; c < 3; c++) {
                otherwise += alike(row.cells.get(c).content, other.get(row.key).cells.get(c).content) ? 0 : 1;
            }
        }
        return otherwise;
    }

    int drawn(int seed, int n) {
        if (n < 0 || n > 20) {
            return -2;
        }
        List<List<Row>> own = List.of(new ArrayList<>(grids.get(1)), new ArrayList<>(grids.get(2)));
        int[] z = {seed};
        for (int i = 0; i < n; i++) {
            List<Row> rows = own.get(next(z) % 2);
            if (!rows.isEmpty()) {
                int place = next(z) % rows.size();
                int column = next(z) % 3;
                int number = next(z) % 10;
                rows.set(place, rows.get(place).with(column, new Cell(number, rows.get(place).cells.get(column).note)));
            }
        }
        Merged made = now(own.get(0), own.get(1), rules);
        return made == null ? -4 : made.clashes.size();
    }

    private static int next(int[] z) {
        z[0] = z[0] * 1103515245 + 12345;
        return z[0] >>> 9;
    }

    int chance(int seed, int m, int part) {
        if (m < 1 || m > 8 || part < 0 || part > 1) {
            return -2;
        }
        int free = 0;
        for (int i = 0; i < m; i++) {
            int found = drawn(seed + i, 3);
            if (found == -4) {
                return -4;
            }
            free += found == 0 ? 1 : 0;
        }
        int a = free;
        int b = m;
        while (b != 0) {
            int rest = a % b;
            a = b;
            b = rest;
        }
        return (part == 0 ? free : m) / a;
    }

    // ---- what was told

    private static int firstOtherwise(int[] sheet, List<Row> rows, int column) {
        for (int i = 0; i < sheet.length || i < rows.size(); i++) {
            if (i >= sheet.length || i >= rows.size() || valueIn(rows, i, column) != sheet[i]) {
                return i;
            }
        }
        return -1;
    }

    int tells(int sheet, int grid, int column, int what) {
        if (sheet < 0 || sheet > 3 || column < 0 || column > 2 || what < 0 || what > 1
                || what == 0 && (grid < 0 || grid > 3)) {
            return -2;
        }
        if (sheets[sheet] == null) {
            return -11;
        }
        if (sheets[sheet].length > 8) {
            return -2;
        }
        if (what == 0) {
            return firstOtherwise(sheets[sheet], grids.get(grid), column);
        }
        int bits = 0;
        for (int kind = 0; kind < 6; kind++) {
            List<Rule> tried = new ArrayList<>(rules);
            tried.set(column, new Rule(kind, rules.get(column).figure));
            Merged made = now(grids.get(1), grids.get(2), tried);
            if (made == null) {
                return -4;
            }
            bits += firstOtherwise(sheets[sheet], made.rows, column) == -1 ? 1 << kind : 0;
        }
        return bits;
    }

    int film(int sheet, int grid, int column) {
        if (sheet < 0 || sheet > 3 || grid < 0 || grid > 3 || column < 0 || column > 2) {
            return -2;
        }
        List<Row> rows = grids.get(grid);
        sheets[sheet] = new int[rows.size()];
        sorts[sheet] = 1;
        for (int i = 0; i < rows.size(); i++) {
            long value = valueIn(rows, i, column);
            sheets[sheet][i] = value == Long.MIN_VALUE ? 0 : (int) value;
        }
        return rows.size();
    }

    int image() {
        kept = new Kept(new ArrayList<>(grids), new ArrayList<>(rules), new ArrayList<>(history));
        return grids.get(3).size();
    }

    int back() {
        if (kept == null) {
            return -3;
        }
        grids = new ArrayList<>(kept.grids);
        rules = new ArrayList<>(kept.rules);
        history = new ArrayList<>(kept.history);
        clashes = new ArrayList<>();
        merged = false;
        return grids.get(3).size();
    }

    int count(int what) {
        if (what < 0 || what > 7) {
            return -2;
        }
        return what < 4 ? grids.get(what).size() : what == 4 ? clashes.size() : what == 5 ? unsettled()
                : what == 6 ? history.size() : tape.length();
    }

    // ---- the host

    int sheet(int sheet, int sort, int n) {
        if (sheet < 0 || sheet > 3 || sort < -1 || sort > 1) {
            return -2;
        }
        if (sort == -1) {
            sheets[sheet] = null;
            return 1;
        }
        if (n > 40 || n < 0) {
            return n < 0 ? -14 : -2;
        }
        sheets[sheet] = new int[n];
        sorts[sheet] = sort;
        return 1;
    }

    int put(int sheet, int i, int v) {
        if (sheet < 0 || sheet > 3) {
            return -2;
        }
        if (sheets[sheet] == null) {
            return -11;
        }
        if (i < 0 || i >= sheets[sheet].length) {
            return -12;
        }
        sheets[sheet][i] = sorts[sheet] == 0 ? (short) v : v;
        return 1;
    }

    int copy(int sheet, int i, int other, int j, int n) {
        if (sheet < 0 || sheet > 3 || other < 0 || other > 3) {
            return -2;
        }
        if (sheets[sheet] == null || sheets[other] == null) {
            return -11;
        }
        if (sorts[sheet] != sorts[other]) {
            return -13;
        }
        if (i < 0 || j < 0 || n < 0 || (long) i + n > sheets[sheet].length || (long) j + n > sheets[other].length) {
            return -12;
        }
        int[] before = sheets[sheet].clone();
        for (int k = 0; k < n; k++) {
            sheets[other][j + k] = before[i + k];
        }
        return n;
    }
}
