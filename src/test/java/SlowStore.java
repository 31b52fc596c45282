import java.util.ArrayList;
import java.util.HashMap;
import java.util.List;
import java.util.Map;
import java.util.regex.Matcher;
import java.util.regex.Pattern;

/**
 * The document once more, written from its words and as slow as they are: whole
 * matrices, whole copies of the state, texts read by a regular expression. It
 * shares no code and no way of reckoning with LocalMenders.
 */
final class SlowStore {
    static final int UNKNOWN = -1, OUT_OF_RANGE = -2, FULL = -3, NOT_POSSIBLE = -4, NONE = -5;

    static final class Data {
        int g = 2, s = 3, stripes = 4, shift = 1;
        Integer[][] cells = zeroes(4, 10); // null stands for a lost cell
        List<Integer> queue = new ArrayList<>();
        int[] loads = new int[10];
        int read, mended, local, lost;

        Data copy() {
            Data d = new Data();
            d.g = g; d.s = s; d.stripes = stripes; d.shift = shift;
            d.cells = new Integer[cells.length][];
            for (int t = 0; t < cells.length; t++) d.cells[t] = cells[t].clone();
            d.queue = new ArrayList<>(queue);
            d.loads = loads.clone();
            d.read = read; d.mended = mended; d.local = local; d.lost = lost;
            return d;
        }

        int n() { return g * s + g + 2; }
    }

    private Data d = new Data();
    private final List<Data> history = new ArrayList<>();
    private Data snapshot;
    private final StringBuilder text = new StringBuilder();
    private static final Map<String, List<Integer>> FATAL = new HashMap<>();

    private static Integer[][] zeroes(int rows, int columns) {
        Integer[][] all = new Integer[rows][columns];
        for (Integer[] row : all) java.util.Arrays.fill(row, 0);
        return all;
    }

    // the field, as polynomials

    static int product(int a, int b) {
        int p = 0;
        for (int k = 0; k < 4; k++) if ((b >> k & 1) == 1) p ^= a << k;
        for (int k = 6; k >= 4; k--) if ((p >> k & 1) == 1) p ^= 0b10011 << (k - 4);
        return p;
    }

    static int power(int exponent) {
        int p = 1;
        for (int k = 0; k < exponent; k++) p = product(p, 2);
        return p;
    }

    static int inverse(int a) {
        for (int b = 1; b < 16; b++) if (product(a, b) == 1) return b;
        throw new IllegalStateException();
    }

    /** The factors of all cells in one check. */
    static int[] check(int g, int s, int number) {
        int[] row = new int[g * s + g + 2];
        if (number < g) {
            for (int i = 0; i < g * s; i++) if (i / s == number) row[i] = 1;
        } else {
            for (int i = 0; i < g * s; i++) row[i] = power(number == g ? i : 2 * i);
        }
        row[g * s + number] = 1;
        return row;
    }

    private static int failing(Data d, Integer[] cells) {
        int set = 0;
        for (int k = 0; k < d.g + 2; k++) {
            int[] row = check(d.g, d.s, k);
            int sum = 0;
            for (int c = 0; c < row.length; c++) sum ^= product(row[c], cells[c]);
            if (sum != 0) set |= 1 << k;
        }
        return set;
    }

    private static boolean anyLost(Integer[] cells) {
        for (Integer c : cells) if (c == null) return true;
        return false;
    }

    // mending: {way, value, cells read as bits}, or null

    private static int[] plan(Data d, Integer[] cells, int cell) {
        int data = d.g * d.s;
        int reads = 0, sum = 0;
        boolean can = true;
        if (cell < data + d.g) {
            int group = cell < data ? cell / d.s : cell - data;
            for (int c = 0; c < data + d.g; c++) {
                boolean same = c < data ? c / d.s == group : c - data == group;
                if (!same || c == cell) continue;
                if (cells[c] == null) can = false; else { reads |= 1 << c; sum ^= cells[c]; }
            }
            if (can) return new int[] {1, sum, reads};
        } else {
            for (int c = 0; c < data; c++) {
                if (cells[c] == null) can = false;
                else { reads |= 1 << c; sum ^= product(cells[c], power(cell == data + d.g ? c : 2 * c)); }
            }
            if (can) return new int[] {2, sum, reads};
        }
        Integer value = solved(d, cells, cell);
        if (value == null) return null;
        reads = 0;
        for (int c = 0; c < cells.length; c++) if (cells[c] != null) reads |= 1 << c;
        return new int[] {3, value, reads};
    }

    /** By the reduced echelon form of all checks over all lost cells. */
    private static Integer solved(Data d, Integer[] cells, int cell) {
        List<Integer> lost = new ArrayList<>();
        for (int c = 0; c < cells.length; c++) if (cells[c] == null) lost.add(c);
        int rows = d.g + 2, columns = lost.size();
        int[][] m = new int[rows][columns + 1];
        for (int k = 0; k < rows; k++) {
            int[] check = check(d.g, d.s, k);
            for (int j = 0; j < columns; j++) m[k][j] = check[lost.get(j)];
            for (int c = 0; c < cells.length; c++) if (cells[c] != null) m[k][columns] ^= product(check[c], cells[c]);
        }
        int top = 0;
        int[] pivotOf = new int[rows];
        for (int j = 0; j < columns && top < rows; j++) {
            int with = top;
            while (with < rows && m[with][j] == 0) with++;
            if (with == rows) continue;
            int[] swap = m[with]; m[with] = m[top]; m[top] = swap;
            int inverse = inverse(m[top][j]);
            for (int k = 0; k <= columns; k++) m[top][k] = product(m[top][k], inverse);
            for (int r = 0; r < rows; r++) {
                int factor = m[r][j];
                if (r != top && factor != 0) for (int k = 0; k <= columns; k++) m[r][k] ^= product(m[top][k], factor);
            }
            pivotOf[top] = j;
            top++;
        }
        for (int r = top; r < rows; r++) if (m[r][columns] != 0) return null;
        for (int r = 0; r < top; r++) {
            if (lost.get(pivotOf[r]) != cell) continue;
            for (int j = pivotOf[r] + 1; j < columns; j++) if (m[r][j] != 0) return null;
            return m[r][columns];
        }
        return null;
    }

    /** By trying all values: for few lost cells alone. */
    static Integer tried(int g, int s, Integer[] cells, int cell) {
        Data d = new Data();
        d.g = g;
        d.s = s;
        List<Integer> lost = new ArrayList<>();
        for (int c = 0; c < cells.length; c++) if (cells[c] == null) lost.add(c);
        Integer only = null;
        for (int code = 0; code < 1 << 4 * lost.size(); code++) {
            Integer[] full = cells.clone();
            for (int j = 0; j < lost.size(); j++) full[lost.get(j)] = code >> 4 * j & 15;
            if (failing(d, full) != 0) continue;
            if (only != null && !only.equals(full[cell])) return null;
            only = full[cell];
        }
        return only;
    }

    // changes

    private interface Change { int make(); }

    private int change(Change change) {
        Data old = d.copy();
        int answer = change.make();
        if (answer < 0) {
            d = old;
        } else {
            history.add(old);
            if (history.size() > 4) history.remove(0);
        }
        return answer;
    }

    private boolean isStripe(int t) { return t >= 0 && t < d.stripes; }
    private boolean isCell(int t, int c) { return isStripe(t) && c >= 0 && c < d.n(); }
    private boolean isNode(int k) { return k >= 0 && k < d.n(); }

    int setLayout(int g, int s, int stripes, int shift) {
        if (g < 1 || g > 4 || s < 2 || s > 6 || stripes < 1 || stripes > 8 || shift < 0 || shift > 5 || g * s > 15) return OUT_OF_RANGE;
        return change(() -> {
            d.g = g; d.s = s; d.stripes = stripes; d.shift = shift;
            d.cells = zeroes(stripes, d.n());
            d.queue.clear();
            d.loads = new int[d.n()];
            return d.n();
        });
    }

    int write(int t, int c, int v) { return change(() -> doWrite(t, c, v)); }
    int lose(int t, int c) { return change(() -> doLose(t, c)); }
    int loseNode(int k) { return change(() -> doLoseNode(k)); }
    int mend(int t, int c) { return change(() -> doMend(t, c)); }

    private int doWrite(int t, int c, int v) {
        if (!isStripe(t) || c < 0 || c >= d.g * d.s) return UNKNOWN;
        if (v < 0 || v > 15) return OUT_OF_RANGE;
        if (anyLost(d.cells[t])) return NOT_POSSIBLE;
        int old = d.cells[t][c];
        if (old == v) return NONE;
        d.cells[t][c] = v;
        int by = old ^ v, data = d.g * d.s;
        d.cells[t][data + c / d.s] ^= by;
        d.cells[t][data + d.g] ^= product(by, power(c));
        d.cells[t][data + d.g + 1] ^= product(by, power(2 * c));
        return old;
    }

    int alter(int t, int c, int v) {
        return change(() -> {
            if (!isCell(t, c)) return UNKNOWN;
            if (v < 0 || v > 15) return OUT_OF_RANGE;
            if (d.cells[t][c] == null) return NOT_POSSIBLE;
            int old = d.cells[t][c];
            if (old == v) return NONE;
            d.cells[t][c] = v;
            return old;
        });
    }

    private int doLose(int t, int c) {
        if (!isCell(t, c)) return UNKNOWN;
        if (d.cells[t][c] == null) return NONE;
        d.cells[t][c] = null;
        d.queue.add(100 * t + c);
        d.lost++;
        return d.queue.size();
    }

    private int doLoseNode(int k) {
        if (!isNode(k)) return UNKNOWN;
        int count = 0;
        for (int t = 0; t < d.stripes; t++)
            for (int c = 0; c < d.n(); c++)
                if ((c + t * d.shift) % d.n() == k && doLose(t, c) > 0) count++;
        return count == 0 ? NONE : count;
    }

    private int doMend(int t, int c) {
        if (!isCell(t, c)) return UNKNOWN;
        if (d.cells[t][c] != null) return NONE;
        int[] plan = plan(d, d.cells[t], c);
        if (plan == null) return NOT_POSSIBLE;
        int count = 0;
        for (int other = 0; other < d.n(); other++) {
            if ((plan[2] >> other & 1) == 1) {
                count++;
                d.read++;
                d.loads[(other + t * d.shift) % d.n()]++;
            }
        }
        d.cells[t][c] = plan[1];
        d.queue.remove(Integer.valueOf(100 * t + c));
        d.mended++;
        if (plan[0] == 1) d.local++;
        return count;
    }

    int mendNode(int k) {
        return change(() -> {
            if (!isNode(k)) return UNKNOWN;
            int count = 0;
            boolean any = false;
            for (int t = 0; t < d.stripes; t++) {
                for (int c = 0; c < d.n(); c++) {
                    if ((c + t * d.shift) % d.n() != k || d.cells[t][c] != null) continue;
                    any = true;
                    int answer = doMend(t, c);
                    if (answer < 0) return answer;
                    count += answer;
                }
            }
            return any ? count : NONE;
        });
    }

    int work(int steps) {
        return change(() -> {
            if (steps < 1 || steps > 50) return OUT_OF_RANGE;
            if (d.queue.isEmpty()) return NONE;
            int count = 0;
            for (int k = 0; k < steps && !d.queue.isEmpty(); k++) {
                int first = d.queue.get(0);
                if (doMend(first / 100, first % 100) >= 0) count++;
                else d.queue.add(d.queue.remove(0));
            }
            return count;
        });
    }

    int scrub() {
        return change(() -> {
            int count = 0;
            for (int t = 0; t < d.stripes; t++) {
                int c = culprit(t);
                if (c < 0) continue;
                for (int v = 0; v < 16; v++) {
                    Integer[] other = d.cells[t].clone();
                    other[c] = v;
                    if (failing(d, other) == 0) { d.cells[t] = other; break; }
                }
                count++;
            }
            return count == 0 ? NONE : count;
        });
    }

    // texts

    int type(char sign) {
        if (text.length() == 60) return FULL;
        text.append(sign);
        return text.length();
    }

    int clearText() {
        int length = text.length();
        text.setLength(0);
        return length;
    }

    private static final String NUMBER = "(?:0|[1-9][0-9]?)";
    private static final String ORDER = "(?:w[0-9]\\." + NUMBER + "=" + NUMBER + "|x[0-9]\\." + NUMBER + "|n" + NUMBER + "|m[0-9]\\." + NUMBER + ")";
    private static final Pattern LIST = Pattern.compile(ORDER + "(?:;" + ORDER + ")*");

    static int fault(String text) {
        for (int length = 1; length <= text.length(); length++) {
            Matcher m = LIST.matcher(text.substring(0, length));
            if (!m.matches() && !m.hitEnd()) return length - 1;
        }
        return LIST.matcher(text).matches() ? -1 : text.length();
    }

    int perform() {
        int fault = fault(text.toString());
        if (fault >= 0) return -100 - fault;
        return change(() -> {
            String[] orders = text.toString().split(";");
            for (String order : orders) {
                String[] parts = order.substring(1).split("[.=]");
                int[] a = new int[parts.length];
                for (int k = 0; k < a.length; k++) a[k] = Integer.parseInt(parts[k]);
                int answer = switch (order.charAt(0)) {
                    case 'w' -> doWrite(a[0], a[1], a[2]);
                    case 'x' -> doLose(a[0], a[1]);
                    case 'n' -> doLoseNode(a[0]);
                    default -> doMend(a[0], a[1]);
                };
                if (answer < 0 && answer != NONE) return answer;
            }
            return orders.length;
        });
    }

    // history

    int undo() {
        if (history.isEmpty()) return NONE;
        d = history.remove(history.size() - 1);
        return history.size();
    }

    int keep() {
        snapshot = d.copy();
        return d.queue.size();
    }

    int restore() {
        if (snapshot == null) return NONE;
        return change(() -> {
            d = snapshot.copy();
            return d.queue.size();
        });
    }

    // what there is

    int value(int t, int c) { return !isCell(t, c) ? UNKNOWN : d.cells[t][c] == null ? NONE : d.cells[t][c]; }
    int node(int t, int c) { return isCell(t, c) ? (c + t * d.shift) % d.n() : UNKNOWN; }
    int load(int k) { return isNode(k) ? d.loads[k] : UNKNOWN; }

    int lost(int t) {
        if (!isStripe(t)) return UNKNOWN;
        int set = 0;
        for (int c = 0; c < d.n(); c++) if (d.cells[t][c] == null) set += 1 << c;
        return set;
    }

    int waiting(int place) { return place < 0 ? OUT_OF_RANGE : place < d.queue.size() ? d.queue.get(place) : NONE; }

    int failing(int t) {
        if (!isStripe(t)) return UNKNOWN;
        return anyLost(d.cells[t]) ? NOT_POSSIBLE : failing(d, d.cells[t]);
    }

    int total(int what) {
        int[] all = {d.g, d.s, d.stripes, d.shift, d.n(), d.queue.size(), d.read, d.mended, d.local, d.lost, history.size(), text.length()};
        return what < 0 || what >= all.length ? OUT_OF_RANGE : all[what];
    }

    // what would be

    int way(int t, int c) {
        if (!isCell(t, c)) return UNKNOWN;
        if (d.cells[t][c] != null) return NONE;
        int[] plan = plan(d, d.cells[t], c);
        return plan == null ? 0 : plan[0];
    }

    int reads(int t, int c) {
        if (way(t, c) < 0) return way(t, c);
        int[] plan = plan(d, d.cells[t], c);
        return plan == null ? NOT_POSSIBLE : Integer.bitCount(plan[2]);
    }

    int mended(int t, int c) {
        if (way(t, c) < 0) return way(t, c);
        int[] plan = plan(d, d.cells[t], c);
        return plan == null ? NOT_POSSIBLE : plan[1];
    }

    int culprit(int t) {
        if (!isStripe(t)) return UNKNOWN;
        if (anyLost(d.cells[t])) return NOT_POSSIBLE;
        if (failing(t) == 0) return NONE;
        int found = NONE;
        for (int c = 0; c < d.n(); c++) {
            for (int v = 0; v < 16; v++) {
                Integer[] other = d.cells[t].clone();
                other[c] = v;
                if (failing(d, other) != 0) continue;
                if (found != NONE) return NONE;
                found = c;
            }
        }
        return found;
    }

    /** By losing the cells of a stripe of zeroes, and mending what can be mended as long as something can. */
    static boolean survive(int g, int s, int set) {
        Data d = new Data();
        d.g = g;
        d.s = s;
        Integer[] cells = zeroes(1, d.n())[0];
        for (int c = 0; c < d.n(); c++) if ((set >> c & 1) == 1) cells[c] = null;
        for (boolean moved = true; moved; ) {
            moved = false;
            for (int c = 0; c < d.n(); c++) {
                if (cells[c] == null && plan(d, cells, c) != null) {
                    cells[c] = 0;
                    moved = true;
                }
            }
        }
        return !anyLost(cells);
    }

    int survives(int set) { return set < 0 || set >= 1 << d.n() ? OUT_OF_RANGE : survive(d.g, d.s, set) ? 1 : 0; }

    private static List<Integer> fatal(int g, int s, int count) {
        return FATAL.computeIfAbsent(g + " " + s + " " + count, key -> {
            List<Integer> sets = new ArrayList<>();
            for (int set = 0; set < 1 << g * s + g + 2; set++) {
                if (Integer.bitCount(set) == count && !survive(g, s, set)) sets.add(set);
            }
            return sets;
        });
    }

    int fatalSets(int count) { return count < 1 || count > 4 ? OUT_OF_RANGE : fatal(d.g, d.s, count).size(); }

    int fatalNodes() {
        for (int count = 1; count <= 4; count++) {
            int least = NONE;
            for (int set : fatal(d.g, d.s, count)) {
                for (int t = 0; t < d.stripes; t++) {
                    int nodes = 0;
                    for (int c = 0; c < d.n(); c++) if ((set >> c & 1) == 1) nodes |= 1 << node(t, c);
                    if (least == NONE || nodes < least) least = nodes;
                }
            }
            if (least != NONE) return least;
        }
        return NONE;
    }

    int busiest() {
        int best = NONE;
        for (int k = 0; k < d.n(); k++) if (d.loads[k] > (best == NONE ? 0 : d.loads[best])) best = k;
        return best;
    }
}
