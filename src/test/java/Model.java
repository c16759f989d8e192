import java.util.ArrayDeque;
import java.util.ArrayList;
import java.util.Deque;
import java.util.List;
import java.util.TreeSet;
import java.util.regex.Matcher;
import java.util.regex.Pattern;

/**
 * A second program for the same document, written for plainness alone: it evaluates the query from
 * its definition and finds repairs by trying all of them. The tests compare WhyNotJoin with it.
 */
final class Model {
    static final int NONE = -10001, INVALID = -10002, REJECTED = -10003, FULL = -10004;

    record Row(int first, int second) { }

    record Pair(Row left, Row right) { }

    record Filter(int stage, int column, int operator, int constant) {
        boolean compares(int x) {
            return switch (operator) {
                case 0 -> x <= constant;
                case 1 -> x >= constant;
                case 2 -> x == constant;
                default -> x != constant;
            };
        }

        boolean acceptsRow(Row row) {
            return compares(column == 0 ? row.first : row.second);
        }

        boolean acceptsPair(Pair pair) {
            int a = pair.left.first;
            int c = pair.right.second;
            return compares(new int[] {a - c, a + c, pair.left.second}[column]);
        }
    }

    record State(List<Row> left, List<Row> right, List<Filter> filters, List<Row> wishes) {
        State copy() {
            return new State(new ArrayList<>(left), new ArrayList<>(right), new ArrayList<>(filters),
                    new ArrayList<>(wishes));
        }
    }

    private State now = new State(new ArrayList<>(), new ArrayList<>(), new ArrayList<>(), new ArrayList<>());
    private final Deque<State> saved = new ArrayDeque<>();
    private final StringBuilder text = new StringBuilder();
    private final int[] errors = new int[3];

    private static boolean in(int x, int low, int high) {
        return low <= x && x <= high;
    }

    private static boolean digits(int x, int y) {
        return in(x, 0, 9) && in(y, 0, 9);
    }

    private int fail(int code) {
        errors[-10002 - code]++;
        return code;
    }

    private static boolean failed(int code) {
        return code == INVALID || code == REJECTED || code == FULL;
    }

    private int finish(State before, int result) {
        if (failed(result)) {
            now = before;
            return fail(result);
        }
        saved.addLast(before);
        if (saved.size() > 5) {
            saved.removeFirst();
        }
        return result;
    }

    private static int add(List<Row> rows, int x, int y, int limit) {
        if (!digits(x, y)) {
            return INVALID;
        }
        if (rows.contains(new Row(x, y))) {
            return REJECTED;
        }
        if (rows.size() == limit) {
            return FULL;
        }
        rows.add(new Row(x, y));
        return rows.size();
    }

    private static int remove(List<?> list, int index) {
        if (!in(index, 0, list.size() - 1)) {
            return INVALID;
        }
        list.remove(index);
        return list.size();
    }

    private int row(List<Row> rows, int index) {
        if (index < 0) {
            return fail(INVALID);
        }
        return index < rows.size() ? 10 * rows.get(index).first + rows.get(index).second : NONE;
    }

    int addLeft(int a, int b) {
        State before = now.copy();
        return finish(before, add(now.left, a, b, 10));
    }

    int addRight(int b, int c) {
        State before = now.copy();
        return finish(before, add(now.right, b, c, 10));
    }

    int removeLeft(int index) {
        State before = now.copy();
        return finish(before, remove(now.left, index));
    }

    int removeRight(int index) {
        State before = now.copy();
        return finish(before, remove(now.right, index));
    }

    int leftRow(int index) {
        return row(now.left, index);
    }

    int rightRow(int index) {
        return row(now.right, index);
    }

    private static boolean constantFits(int stage, int constant) {
        return stage == 2 ? in(constant, -9, 18) : in(constant, 0, 9);
    }

    private int newFilter(int stage, int column, int operator, int constant) {
        if (!in(stage, 0, 2) || !in(column, 0, stage == 2 ? 2 : 1) || !in(operator, 0, 3)
                || !constantFits(stage, constant)) {
            return INVALID;
        }
        if (now.filters.size() == 6) {
            return FULL;
        }
        now.filters.add(new Filter(stage, column, operator, constant));
        return now.filters.size() - 1;
    }

    int addFilter(int stage, int column, int operator, int constant) {
        State before = now.copy();
        return finish(before, newFilter(stage, column, operator, constant));
    }

    int removeFilter(int index) {
        State before = now.copy();
        return finish(before, remove(now.filters, index));
    }

    private boolean isFilter(int index) {
        return in(index, 0, now.filters.size() - 1);
    }

    private static List<Filter> withConstant(List<Filter> filters, int index, int constant) {
        List<Filter> changed = new ArrayList<>(filters);
        Filter old = filters.get(index);
        changed.set(index, new Filter(old.stage, old.column, old.operator, constant));
        return changed;
    }

    int setConstant(int index, int constant) {
        if (!isFilter(index) || !constantFits(now.filters.get(index).stage, constant)) {
            return fail(INVALID);
        }
        State before = now.copy();
        now = new State(now.left, now.right, withConstant(now.filters, index, constant), now.wishes);
        return finish(before, before.filters.get(index).constant);
    }

    int filterCount() {
        return now.filters.size();
    }

    int constant(int index) {
        return isFilter(index) ? now.filters.get(index).constant : fail(INVALID);
    }

    int acceptedBy(int index) {
        if (!isFilter(index)) {
            return fail(INVALID);
        }
        Filter filter = now.filters.get(index);
        return switch (filter.stage) {
            case 0 -> (int) now.left.stream().filter(filter::acceptsRow).count();
            case 1 -> (int) now.right.stream().filter(filter::acceptsRow).count();
            default -> (int) join(now.left, now.right).stream().filter(filter::acceptsPair).count();
        };
    }

    private static List<Pair> join(List<Row> left, List<Row> right) {
        List<Pair> pairs = new ArrayList<>();
        for (Row l : left) {
            for (Row r : right) {
                if (l.second == r.first) {
                    pairs.add(new Pair(l, r));
                }
            }
        }
        return pairs;
    }

    private static List<Row> survivors(List<Row> rows, List<Filter> filters, int stage) {
        List<Row> left = new ArrayList<>(rows);
        for (Filter filter : filters) {
            if (filter.stage == stage) {
                left.removeIf(row -> !filter.acceptsRow(row));
            }
        }
        return left;
    }

    private static List<Pair> matches(List<Row> left, List<Row> right, List<Filter> filters) {
        List<Pair> pairs = join(survivors(left, filters, 0), survivors(right, filters, 1));
        for (Filter filter : filters) {
            if (filter.stage == 2) {
                pairs.removeIf(pair -> !filter.acceptsPair(pair));
            }
        }
        return pairs;
    }

    private TreeSet<Integer> result(List<Filter> filters) {
        TreeSet<Integer> result = new TreeSet<>();
        for (Pair pair : matches(now.left, now.right, filters)) {
            result.add(10 * pair.left.first + pair.right.second);
        }
        return result;
    }

    private boolean present(int a, int c, List<Filter> filters) {
        return result(filters).contains(10 * a + c);
    }

    int answerCount() {
        return result(now.filters).size();
    }

    int answer(int index) {
        if (index < 0) {
            return fail(INVALID);
        }
        List<Integer> sorted = new ArrayList<>(result(now.filters));
        return index < sorted.size() ? sorted.get(index) : NONE;
    }

    int matchCount(int a, int c) {
        if (!digits(a, c)) {
            return fail(INVALID);
        }
        return (int) matches(now.left, now.right, now.filters).stream()
                .filter(pair -> pair.left.first == a && pair.right.second == c).count();
    }

    int blame(int a, int c) {
        if (!digits(a, c)) {
            return fail(INVALID);
        }
        List<Row> left = new ArrayList<>(now.left);
        left.removeIf(row -> row.first != a);
        if (left.isEmpty()) {
            return 0;
        }
        for (int i = 0; i < now.filters.size(); i++) {
            Filter filter = now.filters.get(i);
            if (filter.stage == 0) {
                left.removeIf(row -> !filter.acceptsRow(row));
                if (left.isEmpty()) {
                    return 10 + i;
                }
            }
        }
        List<Row> right = new ArrayList<>(now.right);
        right.removeIf(row -> row.second != c);
        if (right.isEmpty()) {
            return 1;
        }
        for (int i = 0; i < now.filters.size(); i++) {
            Filter filter = now.filters.get(i);
            if (filter.stage == 1) {
                right.removeIf(row -> !filter.acceptsRow(row));
                if (right.isEmpty()) {
                    return 10 + i;
                }
            }
        }
        List<Pair> pairs = join(left, right);
        if (pairs.isEmpty()) {
            return 2;
        }
        for (int i = 0; i < now.filters.size(); i++) {
            Filter filter = now.filters.get(i);
            if (filter.stage == 2) {
                pairs.removeIf(pair -> !filter.acceptsPair(pair));
                if (pairs.isEmpty()) {
                    return 10 + i;
                }
            }
        }
        return 9;
    }

    private List<Filter> without(int mask) {
        List<Filter> kept = new ArrayList<>();
        for (int i = 0; i < now.filters.size(); i++) {
            if ((mask >> i & 1) == 0) {
                kept.add(now.filters.get(i));
            }
        }
        return kept;
    }

    private int removalFor(List<Row> pairs) {
        int n = now.filters.size();
        for (int count = 0; count <= n; count++) {
            for (int mask = 0; mask < 1 << n; mask++) {
                if (Integer.bitCount(mask) == count) {
                    TreeSet<Integer> result = result(without(mask));
                    if (pairs.stream().allMatch(pair -> result.contains(10 * pair.first + pair.second))) {
                        return mask;
                    }
                }
            }
        }
        return NONE;
    }

    int filtersToRemove(int a, int c) {
        return digits(a, c) ? removalFor(List.of(new Row(a, c))) : fail(INVALID);
    }

    int repairedConstant(int a, int c, int index) {
        if (!digits(a, c) || !isFilter(index)) {
            return fail(INVALID);
        }
        int current = now.filters.get(index).constant;
        int best = NONE;
        for (int constant = -9; constant <= 18; constant++) {
            if (constantFits(now.filters.get(index).stage, constant)
                    && present(a, c, withConstant(now.filters, index, constant))
                    && (best == NONE || Math.abs(constant - current) < Math.abs(best - current))) {
                best = constant;
            }
        }
        return best;
    }

    /** The cost of b, or NONE if it is not possible. */
    private int cost(int a, int b, int c) {
        Row left = new Row(a, b);
        Row right = new Row(b, c);
        if (matches(List.of(left), List.of(right), now.filters).isEmpty()) {
            return NONE;
        }
        return (now.left.contains(left) ? 0 : 1) + (now.right.contains(right) ? 0 : 1);
    }

    private int lowest(int a, int c) {
        for (int cost = 0; cost <= 2; cost++) {
            for (int b = 0; b <= 9; b++) {
                if (cost(a, b, c) == cost) {
                    return 10 * cost + b;
                }
            }
        }
        return NONE;
    }

    int missingRows(int a, int c) {
        if (!digits(a, c)) {
            return fail(INVALID);
        }
        int lowest = lowest(a, c);
        return lowest == NONE ? NONE : lowest / 10;
    }

    int missingB(int a, int c) {
        if (!digits(a, c)) {
            return fail(INVALID);
        }
        int lowest = lowest(a, c);
        return lowest == NONE || present(a, c, now.filters) ? NONE : lowest % 10;
    }

    int insertMissing(int a, int c) {
        if (!digits(a, c)) {
            return fail(INVALID);
        }
        int lowest = lowest(a, c);
        if (lowest == NONE) {
            return fail(REJECTED);
        }
        State before = now.copy();
        int inserted = 0;
        int left = add(now.left, a, lowest % 10, 10);
        int right = add(now.right, lowest % 10, c, 10);
        if (left == FULL || right == FULL) {
            return finish(before, FULL);
        }
        inserted += left == REJECTED ? 0 : 1;
        inserted += right == REJECTED ? 0 : 1;
        return finish(before, inserted);
    }

    int loosen(int a, int c) {
        if (!digits(a, c)) {
            return fail(INVALID);
        }
        int mask = removalFor(List.of(new Row(a, c)));
        if (mask == NONE) {
            return fail(REJECTED);
        }
        State before = now.copy();
        now = new State(now.left, now.right, without(mask), now.wishes);
        return finish(before, Integer.bitCount(mask));
    }

    int addWish(int a, int c) {
        State before = now.copy();
        return finish(before, add(now.wishes, a, c, 4));
    }

    int clearWishes() {
        State before = now.copy();
        now.wishes.clear();
        return finish(before, before.wishes.size());
    }

    int satisfiedWishes() {
        return (int) now.wishes.stream().filter(wish -> present(wish.first, wish.second, now.filters)).count();
    }

    int filtersToRemoveForWishes() {
        return removalFor(now.wishes);
    }

    int append(int value) {
        if (!in(value, 0, 127)) {
            return fail(INVALID);
        }
        if (text.length() == 120) {
            return fail(FULL);
        }
        text.append((char) value);
        return text.length();
    }

    int clearText() {
        int length = text.length();
        text.setLength(0);
        return length;
    }

    private static final String NUMBER = "[0-9][0-9]?";
    private static final String COMMAND = "(?:[lrw] *" + NUMBER + " +" + NUMBER + "|x *" + NUMBER + "|e|f *"
            + NUMBER + " +" + NUMBER + " +" + NUMBER + "(?: +-?| *-)" + NUMBER + ") *; *";
    private static final Pattern SCRIPT = Pattern.compile(" *(?:" + COMMAND + ")+");

    /** The length of the longest beginning of the text with which some script begins. */
    private int viable() {
        for (int length = text.length(); length > 0; length--) {
            Matcher matcher = SCRIPT.matcher(text.substring(0, length));
            if (matcher.matches() || matcher.hitEnd()) {
                return length;
            }
        }
        return 0;
    }

    int runScript() {
        if (!SCRIPT.matcher(text).matches()) {
            return -10 - viable();
        }
        State before = now.copy();
        String[] commands = text.toString().split(";");
        int count = commands[commands.length - 1].isBlank() ? commands.length - 1 : commands.length;
        for (int k = 0; k < count; k++) {
            if (failed(perform(commands[k].trim()))) {
                now = before;
                return -1000 - k;
            }
        }
        return finish(before, count);
    }

    private int perform(String command) {
        String[] parts = command.substring(1).replace("-", " -").trim().split(" +");
        int[] n = new int[4];
        for (int i = 0; i < parts.length && !parts[i].isEmpty(); i++) {
            n[i] = Integer.parseInt(parts[i]);
        }
        return switch (command.charAt(0)) {
            case 'l' -> add(now.left, n[0], n[1], 10);
            case 'r' -> add(now.right, n[0], n[1], 10);
            case 'w' -> add(now.wishes, n[0], n[1], 4);
            case 'x' -> remove(now.filters, n[0]);
            case 'f' -> newFilter(n[0], n[1], n[2], n[3]);
            default -> {
                now.wishes.clear();
                yield 0;
            }
        };
    }

    int undo() {
        if (saved.isEmpty()) {
            return fail(REJECTED);
        }
        now = saved.removeLast();
        return saved.size();
    }

    int errorCount(int kind) {
        return in(kind, 0, 2) ? errors[kind] : fail(INVALID);
    }

    long digest() {
        List<Integer> values = new ArrayList<>();
        values.add(errors[0]);
        values.add(errors[1]);
        values.add(errors[2]);
        values.add(text.length());
        values.add(saved.size());
        values.add(now.left.size());
        now.left.forEach(row -> values.add(10 * row.first + row.second));
        values.add(now.right.size());
        now.right.forEach(row -> values.add(10 * row.first + row.second));
        values.add(now.filters.size());
        for (int i = 0; i < now.filters.size(); i++) {
            Filter filter = now.filters.get(i);
            values.addAll(List.of(filter.stage, filter.column, filter.operator, filter.constant, acceptedBy(i)));
        }
        values.add(answerCount());
        values.addAll(result(now.filters));
        values.add(now.wishes.size());
        for (Row wish : now.wishes) {
            int a = wish.first;
            int c = wish.second;
            values.addAll(List.of(10 * a + c, blame(a, c), filtersToRemove(a, c), missingRows(a, c), missingB(a, c)));
        }
        values.add(filtersToRemoveForWishes());
        long hash = 18084;
        for (int value : values) {
            hash = 31 * hash + value;
        }
        return hash;
    }
}
