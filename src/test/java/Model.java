import java.util.ArrayDeque;
import java.util.ArrayList;
import java.util.Deque;
import java.util.List;
import java.util.regex.Matcher;
import java.util.regex.Pattern;

/** The document told a second time, in the dullest way: sets of squares, and all plans one by one. */
final class Model {
    static final int NONE = -1;

    private static final String X = "(0|[1-5][0-9]?|[6-9])";
    private static final String Y = "(0|[1-3][0-9]?|[4-9])";
    private static final String WIDTH = "(1[0-9]?|20?|[3-9])";
    private static final String HEIGHT = "([1-9])";
    private static final String WEIGHT = "([1-9][0-9]?)";
    private static final String POINT = X + "," + Y + ":" + WIDTH + "x" + HEIGHT + "(?:\\*" + WEIGHT + ")?";
    private static final Pattern ONE = Pattern.compile(POINT);
    private static final Pattern TEXT = Pattern.compile(POINT + "(?:;" + POINT + ")*");

    /** x, y, width, height, weight, corner. */
    private List<int[]> rows = new ArrayList<>();
    private final Deque<List<int[]>> saved = new ArrayDeque<>();
    private final StringBuilder buffer = new StringBuilder();
    private String listedFor = null;
    private List<int[]> listed = null;

    private List<int[]> copy() {
        List<int[]> copy = new ArrayList<>();
        for (int[] row : rows) {
            copy.add(row.clone());
        }
        return copy;
    }

    private void save() {
        saved.addLast(copy());
        if (saved.size() > 6) {
            saved.removeFirst();
        }
    }

    private int[] row(int point) {
        if (point < 0 || point >= rows.size()) {
            throw new IndexOutOfBoundsException();
        }
        return rows.get(point);
    }

    private static void argument(boolean good) {
        if (!good) {
            throw new IllegalArgumentException();
        }
    }

    private static void state(boolean good) {
        if (!good) {
            throw new IllegalStateException();
        }
    }

    private static boolean in(int value, int least, int most) {
        return least <= value && value <= most;
    }

    private static boolean has(int[] row, int corner, int x, int y) {
        int dx = x - row[0];
        int dy = y - row[1];
        boolean columns = corner == 0 || corner == 3 ? in(dx, 1, row[2]) : in(dx, -row[2], -1);
        boolean lines = corner == 0 || corner == 1 ? in(dy, 1, row[3]) : in(dy, -row[3], -1);
        return columns && lines;
    }

    private static boolean touches(int[] one, int corner, int[] other, int otherCorner) {
        return common(one, corner, other, otherCorner) > 0;
    }

    private static int common(int[] one, int corner, int[] other, int otherCorner) {
        int squares = 0;
        for (int x = one[0] - 20; x <= one[0] + 20; x++) {
            for (int y = one[1] - 9; y <= one[1] + 9; y++) {
                if (has(one, corner, x, y) && has(other, otherCorner, x, y)) {
                    squares++;
                }
            }
        }
        return squares;
    }

    private boolean open(int[] row, int corner) {
        for (int x = row[0] - 20; x <= row[0] + 20; x++) {
            for (int y = row[1] - 9; y <= row[1] + 9; y++) {
                if (has(row, corner, x, y) && (!in(x, 0, 59) || !in(y, 0, 39) || pointOn(x, y) != NONE)) {
                    return false;
                }
            }
        }
        return true;
    }

    private int pointOn(int x, int y) {
        for (int p = 0; p < rows.size(); p++) {
            if (rows.get(p)[0] == x && rows.get(p)[1] == y) {
                return p;
            }
        }
        return NONE;
    }

    private void insert(int x, int y, int width, int height, int weight) {
        for (int[] row : rows) {
            if (row[5] != NONE && has(row, row[5], x, y)) {
                row[5] = NONE;
            }
        }
        rows.add(new int[] {x, y, width, height, weight, NONE});
    }

    int add(int x, int y, int width, int height, int weight) {
        argument(in(x, 0, 59) && in(y, 0, 39) && in(width, 1, 20) && in(height, 1, 9) && in(weight, 1, 99));
        state(rows.size() < 8 && pointOn(x, y) == NONE);
        save();
        insert(x, y, width, height, weight);
        return rows.size() - 1;
    }

    int remove(int point) {
        int[] gone = row(point);
        save();
        List<int[]> others = new ArrayList<>(rows);
        others.remove(point);
        int opened = 0;
        boolean[] before = new boolean[others.size() * 4];
        for (int i = 0; i < before.length; i++) {
            before[i] = open(others.get(i / 4), i % 4);
        }
        rows = others;
        for (int i = 0; i < before.length; i++) {
            opened += open(others.get(i / 4), i % 4) && !before[i] ? 1 : 0;
        }
        return gone == null ? NONE : opened;
    }

    int weigh(int point, int weight) {
        int[] row = row(point);
        argument(in(weight, 1, 99));
        save();
        int old = row[4];
        row[4] = weight;
        return old;
    }

    int resize(int point, int width, int height) {
        int[] row = row(point);
        argument(in(width, 1, 20) && in(height, 1, 9));
        save();
        row[2] = width;
        row[3] = height;
        row[5] = NONE;
        return Integer.bitCount(point(point, 6));
    }

    int place(int point, int corner) {
        int[] row = row(point);
        argument(in(corner, 0, 3));
        state((point(point, 7) >> corner & 1) == 1);
        save();
        int old = row[5];
        row[5] = corner;
        return old;
    }

    int drop(int point) {
        int[] row = row(point);
        save();
        int old = row[5];
        row[5] = NONE;
        return old;
    }

    int solve() {
        save();
        put(heaviest(NONE));
        return count(2);
    }

    private void put(int[] plan) {
        for (int p = 0; p < rows.size(); p++) {
            rows.get(p)[5] = plan[p];
        }
    }

    int push(int point) {
        row(point);
        int[] plan = room(point);
        state(plan != null);
        int moved = moved(plan, point);
        save();
        put(plan);
        return moved;
    }

    int mirror() {
        save();
        for (int[] row : rows) {
            row[0] = 59 - row[0];
            row[5] = row[5] == NONE ? NONE : new int[] {1, 0, 3, 2}[row[5]];
        }
        return count(1);
    }

    int append(int code) {
        argument(in(code, 33, 126));
        state(buffer.length() < 60);
        buffer.append((char) code);
        return buffer.length();
    }

    int clearBuffer() {
        int length = buffer.length();
        buffer.setLength(0);
        return length;
    }

    int firstError() {
        for (int end = 1; end <= buffer.length(); end++) {
            Matcher matcher = TEXT.matcher(buffer.substring(0, end));
            if (!matcher.matches() && !matcher.hitEnd()) {
                return end - 1;
            }
        }
        return buffer.length();
    }

    int read() {
        argument(TEXT.matcher(buffer).matches());
        save();
        int added = 0;
        for (String text : buffer.toString().split(";")) {
            Matcher told = ONE.matcher(text);
            told.matches();
            int x = Integer.parseInt(told.group(1));
            int y = Integer.parseInt(told.group(2));
            if (rows.size() == 8 || pointOn(x, y) != NONE) {
                break;
            }
            insert(x, y, Integer.parseInt(told.group(3)), Integer.parseInt(told.group(4)),
                    told.group(5) == null ? 1 : Integer.parseInt(told.group(5)));
            added++;
        }
        buffer.setLength(0);
        return added;
    }

    int undo() {
        state(!saved.isEmpty());
        rows = saved.removeLast();
        return saved.size();
    }

    int point(int point, int what) {
        int[] row = row(point);
        argument(in(what, 0, 8));
        if (what < 6) {
            return row[what];
        }
        if (what == 8) {
            return crossed(row);
        }
        int mask = 0;
        for (int corner = 0; corner < 4; corner++) {
            boolean good = open(row, corner);
            for (int[] other : rows) {
                if (what == 7 && other != row && other[5] != NONE && touches(row, corner, other, other[5])) {
                    good = false;
                }
            }
            mask += good ? 1 << corner : 0;
        }
        return mask;
    }

    private int crossed(int[] row) {
        boolean[] labels = new boolean[rows.size()];
        int crossed = 0;
        for (int x = row[0] + 1; x <= 59; x++) {
            int there = at(x, row[1]);
            if (there >= 100) {
                labels[there - 100] = true;
            } else if (there != NONE) {
                crossed++;
            }
        }
        for (boolean label : labels) {
            crossed += label ? 1 : 0;
        }
        return crossed;
    }

    int clash(int one, int corner, int other, int otherCorner) {
        int[] first = row(one);
        int[] second = row(other);
        argument(one != other && in(corner, 0, 3) && in(otherCorner, 0, 3));
        return common(first, corner, second, otherCorner);
    }

    int at(int x, int y) {
        argument(in(x, 0, 59) && in(y, 0, 39));
        if (pointOn(x, y) != NONE) {
            return pointOn(x, y);
        }
        for (int p = 0; p < rows.size(); p++) {
            if (rows.get(p)[5] != NONE && has(rows.get(p), rows.get(p)[5], x, y)) {
                return p + 100;
            }
        }
        return NONE;
    }

    int count(int what) {
        argument(in(what, 0, 8));
        int sum = 0;
        for (int p = 0; p < rows.size(); p++) {
            int[] row = rows.get(p);
            boolean stands = row[5] != NONE;
            switch (what) {
                case 0 -> sum++;
                case 1 -> sum += stands ? 1 : 0;
                case 2 -> sum += stands ? row[4] : 0;
                case 3 -> sum += stands ? 0 : row[4];
                case 4 -> sum += stands ? row[2] * row[3] : 0;
                case 5 -> sum += point(p, 6) == 0 ? 1 : 0;
                case 6 -> sum += clashingBefore(p);
                case 7 -> sum += stands ? 0 : crossed(row);
                default -> sum = saved.size();
            }
        }
        return what == 8 ? saved.size() : sum;
    }

    private int clashingBefore(int point) {
        int pairs = 0;
        for (int before = 0; before < point; before++) {
            boolean clash = false;
            for (int i = 0; i < 16; i++) {
                clash |= open(rows.get(before), i / 4) && open(rows.get(point), i % 4)
                        && touches(rows.get(before), i / 4, rows.get(point), i % 4);
            }
            pairs += clash ? 1 : 0;
        }
        return pairs;
    }

    /** All plans, in any order; the document's order is told by ahead(). */
    private List<int[]> plans() {
        StringBuilder places = new StringBuilder();
        for (int[] row : rows) {
            places.append(row[0]).append(',').append(row[1]).append(',').append(row[2]).append(',')
                    .append(row[3]).append(';');
        }
        if (!places.toString().equals(listedFor)) {
            listedFor = places.toString();
            listed = listPlans();
        }
        return listed;
    }

    private List<int[]> listPlans() {
        int size = rows.size();
        boolean[][] open = new boolean[size][4];
        boolean[][] clash = new boolean[size * 4][size * 4];
        for (int i = 0; i < size * 4; i++) {
            open[i / 4][i % 4] = open(rows.get(i / 4), i % 4);
            for (int j = 0; j < i / 4 * 4; j++) {
                clash[i][j] = touches(rows.get(i / 4), i % 4, rows.get(j / 4), j % 4);
            }
        }
        List<int[]> plans = new ArrayList<>();
        plans.add(new int[size]);
        for (int p = 0; p < size; p++) {
            List<int[]> longer = new ArrayList<>();
            for (int[] plan : plans) {
                for (int corner = NONE; corner < 4; corner++) {
                    if (corner == NONE || open[p][corner] && fits(plan, clash, p, corner)) {
                        int[] next = plan.clone();
                        next[p] = corner;
                        longer.add(next);
                    }
                }
            }
            plans = longer;
        }
        return plans;
    }

    private static boolean fits(int[] plan, boolean[][] clash, int point, int corner) {
        for (int q = 0; q < point; q++) {
            if (plan[q] != NONE && clash[point * 4 + corner][q * 4 + plan[q]]) {
                return false;
            }
        }
        return true;
    }

    private static boolean ahead(int[] one, int[] other) {
        for (int p = 0; p < one.length; p++) {
            if (one[p] != other[p]) {
                return other[p] == NONE || one[p] != NONE && one[p] < other[p];
            }
        }
        return false;
    }

    private int weight(int[] plan) {
        int sum = 0;
        for (int p = 0; p < plan.length; p++) {
            sum += plan[p] == NONE ? 0 : rows.get(p)[4];
        }
        return sum;
    }

    private int[] heaviest(int without) {
        int[] best = null;
        for (int[] plan : plans()) {
            if (without != NONE && plan[without] != NONE) {
                continue;
            }
            if (best == null || weight(plan) > weight(best)
                    || weight(plan) == weight(best) && ahead(plan, best)) {
                best = plan;
            }
        }
        return best;
    }

    private int moved(int[] plan, int point) {
        int moved = 0;
        for (int p = 0; p < plan.length; p++) {
            moved += p != point && plan[p] != rows.get(p)[5] ? 1 : 0;
        }
        return moved;
    }

    private int[] room(int point) {
        if (rows.get(point)[5] != NONE) {
            return null;
        }
        int[] best = null;
        for (int[] plan : plans()) {
            boolean just = true;
            for (int p = 0; p < plan.length; p++) {
                just &= (plan[p] != NONE) == (p == point || rows.get(p)[5] != NONE);
            }
            if (just && (best == null || moved(plan, point) < moved(best, point)
                    || moved(plan, point) == moved(best, point) && ahead(plan, best))) {
                best = plan;
            }
        }
        return best;
    }

    int best(int point) {
        row(point);
        return heaviest(NONE)[point];
    }

    int bestWeight(int without) {
        if (without != NONE) {
            row(without);
        }
        return weight(heaviest(without));
    }

    int ifPushed(int point) {
        row(point);
        int[] plan = room(point);
        return plan == null ? NONE : moved(plan, point);
    }

    int fullPlans() {
        int full = 0;
        boolean[] must = new boolean[rows.size()];
        for (int p = 0; p < rows.size(); p++) {
            must[p] = point(p, 6) != 0;
        }
        for (int[] plan : plans()) {
            boolean good = true;
            for (int p = 0; p < plan.length; p++) {
                good &= (plan[p] != NONE) == must[p];
            }
            full += good ? 1 : 0;
        }
        return full;
    }

    int dearest() {
        int found = NONE;
        int most = NONE;
        for (int p = 0; p < rows.size(); p++) {
            int sum = rows.get(p)[4] + bestWeight(p);
            if (sum > most) {
                found = p;
                most = sum;
            }
        }
        return found;
    }

    double standingShare() {
        return rows.isEmpty() ? 1.0 : (double) count(2) / (count(2) + count(3));
    }

    long digest() {
        List<Long> values = new ArrayList<>();
        for (int what = 0; what <= 8; what++) {
            values.add((long) count(what));
        }
        for (int p = 0; p < rows.size(); p++) {
            for (int what = 0; what <= 8; what++) {
                values.add((long) point(p, what));
            }
            values.add((long) best(p));
            values.add((long) bestWeight(p));
            values.add((long) ifPushed(p));
        }
        for (int p = 0; p < rows.size(); p++) {
            for (int q = p + 1; q < rows.size(); q++) {
                values.add((long) clash(p, 0, q, 0));
                values.add((long) clash(p, 0, q, 1));
            }
        }
        values.add((long) bestWeight(NONE));
        values.add((long) fullPlans());
        values.add((long) dearest());
        values.add(Double.doubleToLongBits(standingShare()));
        values.add((long) buffer.length());
        for (char sign : buffer.toString().toCharArray()) {
            values.add((long) sign);
        }
        long hash = 2833;
        for (long value : values) {
            hash = 31 * hash + value;
        }
        return hash;
    }
}
