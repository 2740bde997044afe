import java.math.BigInteger;
import java.util.ArrayDeque;
import java.util.ArrayList;
import java.util.Arrays;
import java.util.Deque;
import java.util.List;
import java.util.regex.Matcher;
import java.util.regex.Pattern;

/** The document once more, by other ways than the program's: for comparison on random runs. */
final class Model {
    private static final int UNKNOWN = -1, OUTSIDE = -2, STATE = -3, FULL = -4, NONE = -9;
    private static final Pattern WATCH =
            Pattern.compile("W(c[0-9]{2}[0-9](0[1-9]|[1-9][0-9])[0-4][01][0-9]{1,5}\\.){0,5}");

    private static final class Row implements Cloneable {
        int base, slack, bound, rate, restart, day, up, down, alarms, kind, level;
        int lastDay = NONE;
        String season;
        List<Integer> past = new ArrayList<>();

        Row copy() {
            try {
                Row c = (Row) clone();
                c.past = new ArrayList<>(past);
                return c;
            } catch (CloneNotSupportedException e) {
                throw new IllegalStateException(e);
            }
        }

        int f(int d) {
            return season.charAt(d % season.length()) - '0';
        }

        int e() {
            return Math.floorDiv(level, 16) + f(day) - 5;
        }

        int tell(int v) {
            int e = e();
            up = up + v - e - slack;
            if (up < 0) {
                up = 0;
            }
            down = down + e - v - slack;
            if (down < 0) {
                down = 0;
            }
            boolean high = up >= bound;
            boolean low = down >= bound;
            int alarm = high && low ? 3 : high ? 1 : low ? 2 : 0;
            if (alarm > 0) {
                alarms++;
                kind = alarm;
                lastDay = day;
                up = high && restart == 1 ? bound / 2 : 0;
                down = low && restart == 1 ? bound / 2 : 0;
            }
            if (alarm == 0 && rate > 0 && up == 0 && down == 0) {
                int difference = 16 * (v - f(day) + 5) - level;
                level += Math.floorDiv(difference, (int) Math.pow(2, rate));
                if (level < 0) {
                    level = 0;
                }
                if (level > 1584) {
                    level = 1584;
                }
            }
            push(v);
            return alarm;
        }

        void push(int v) {
            past.add(v);
            if (past.size() > 12) {
                past.remove(0);
            }
            day++;
        }

        int get(int what) {
            int[] all = {base, slack, bound, rate, restart, day, up, down, alarms, kind, lastDay, level,
                e() + 100, past.size()};
            return all[what];
        }
    }

    private static final class State {
        final List<Row> rows = new ArrayList<>();
        String chances = "02620";

        State copy() {
            State s = new State();
            for (Row r : rows) {
                s.rows.add(r.copy());
            }
            s.chances = chances;
            return s;
        }

        int alarms() {
            return rows.stream().mapToInt(r -> r.alarms).sum();
        }
    }

    private String text = "";
    private State now = new State();
    private final Deque<State> history = new ArrayDeque<>();
    private final State[] slots = new State[2];
    private final List<int[]> seen = new ArrayList<>();
    private BigInteger seed = BigInteger.ZERO;

    private boolean none(int series) {
        return series < 0 || series >= now.rows.size();
    }

    private static boolean out(int v, int low, int high) {
        return v < low || v > high;
    }

    private void act() {
        history.addLast(now.copy());
        if (history.size() > 14) {
            history.removeFirst();
        }
    }

    int write(int letter) {
        if (out(letter, 0, 255)) {
            return OUTSIDE;
        }
        if (text.length() == 80) {
            return FULL;
        }
        text += (char) letter;
        return text.length();
    }

    int wipe() {
        int n = text.length();
        text = "";
        return n;
    }

    private static boolean canBegin(String s) {
        Matcher m = WATCH.matcher(s);
        return m.matches() || m.hitEnd();
    }

    int fault() {
        for (int i = 0; i < text.length(); i++) {
            if (!canBegin(text.substring(0, i + 1))) {
                return i;
            }
        }
        return WATCH.matcher(text).matches() ? NONE : text.length();
    }

    int watch() {
        if (!WATCH.matcher(text).matches()) {
            return STATE;
        }
        now.rows.clear();
        for (String part : text.substring(1).split("\\.")) {
            if (!part.isEmpty()) {
                Row r = new Row();
                r.base = Integer.parseInt(part.substring(1, 3));
                r.slack = Integer.parseInt(part.substring(3, 4));
                r.bound = Integer.parseInt(part.substring(4, 6));
                r.rate = Integer.parseInt(part.substring(6, 7));
                r.restart = Integer.parseInt(part.substring(7, 8));
                r.season = part.substring(8);
                r.level = 16 * r.base;
                now.rows.add(r);
            }
        }
        history.clear();
        slots[0] = null;
        slots[1] = null;
        return now.rows.size();
    }

    int series(int series, int what) {
        return none(series) ? UNKNOWN : out(what, 0, 13) ? OUTSIDE : now.rows.get(series).get(what);
    }

    int past(int series, int place) {
        if (none(series) || out(place, 0, now.rows.get(series).past.size() - 1)) {
            return UNKNOWN;
        }
        return now.rows.get(series).past.get(place);
    }

    int tell(int series, int v) {
        if (none(series)) {
            return UNKNOWN;
        }
        if (out(v, 0, 99)) {
            return OUTSIDE;
        }
        act();
        return now.rows.get(series).tell(v);
    }

    int gap(int series) {
        if (none(series)) {
            return UNKNOWN;
        }
        act();
        now.rows.get(series).push(NONE);
        return now.rows.get(series).day;
    }

    int clear(int series) {
        if (none(series)) {
            return UNKNOWN;
        }
        act();
        Row r = now.rows.get(series);
        int sum = r.up + r.down;
        r.up = 0;
        r.down = 0;
        return sum;
    }

    int set(int series, int what, int v) {
        if (none(series)) {
            return UNKNOWN;
        }
        int[] low = {0, 1, 0, 0};
        int[] high = {9, 99, 4, 1};
        if (out(what, 0, 3) || out(v, low[what], high[what])) {
            return OUTSIDE;
        }
        act();
        Row r = now.rows.get(series);
        int was = r.get(what + 1);
        if (what == 0) {
            r.slack = v;
        } else if (what == 1) {
            r.bound = v;
        } else if (what == 2) {
            r.rate = v;
        } else {
            r.restart = v;
        }
        return was;
    }

    int chances(int w) {
        if (out(w, 0, 99999) || String.valueOf(w).chars().map(c -> c - '0').sum() != 10) {
            return OUTSIDE;
        }
        act();
        int was = Integer.parseInt(now.chances);
        now.chances = String.format("%05d", w);
        return was;
    }

    int undo() {
        if (history.isEmpty()) {
            return STATE;
        }
        now = history.removeLast();
        return history.size();
    }

    int ahead(int n, int v, int series, int what) {
        if (none(series)) {
            return UNKNOWN;
        }
        if (out(n, 0, 60) || out(v, 0, 99) || out(what, 5, 13)) {
            return OUTSIDE;
        }
        Row r = now.rows.get(series).copy();
        for (int i = 0; i < n; i++) {
            r.tell(v);
        }
        return r.get(what);
    }

    int rings(int series, int v) {
        if (none(series)) {
            return UNKNOWN;
        }
        if (out(v, 0, 99)) {
            return OUTSIDE;
        }
        int alarms = now.rows.get(series).alarms;
        for (int n = 1; n <= 60; n++) {
            if (ahead(n, v, series, 8) > alarms) {
                return n;
            }
        }
        return NONE;
    }

    int least(int series, int n) {
        if (none(series)) {
            return UNKNOWN;
        }
        if (out(n, 1, 30)) {
            return OUTSIDE;
        }
        for (int v = 0; v < 100; v++) {
            int needed = rings(series, v);
            if (needed != NONE && needed <= n) {
                return v;
            }
        }
        return NONE;
    }

    private static long reduced(BigInteger above, BigInteger below, boolean upper) {
        BigInteger g = above.gcd(below);
        if (below.signum() < 0) {
            g = g.negate();
        }
        return (upper ? above : below).divide(g).longValueExact();
    }

    /** The states that can occur, by search; NONE by search as well; then Gauss over fractions. */
    long length(int series, boolean upper) {
        if (none(series)) {
            return UNKNOWN;
        }
        Row r = now.rows.get(series);
        if (r.bound > 6) {
            return STATE;
        }
        int h = r.bound;
        int[][] to = new int[h + 1][h + 1];
        for (int from = 0; from < h; from++) {
            for (int t = -2; t <= 2; t++) {
                int next = Math.min(h, Math.max(0, from + t - r.slack));
                to[from][next] += now.chances.charAt(t + 2) - '0';
            }
        }
        for (int s = 0; s < h; s++) {
            if (reach(to, 0)[s] && !reach(to, s)[h]) {
                return NONE;
            }
        }
        BigInteger all = minor(to, h, false);
        BigInteger one = minor(to, h, true);
        return reduced(one, all, upper);
    }

    private static boolean[] reach(int[][] to, int from) {
        boolean[] in = new boolean[to.length];
        in[from] = true;
        for (int round = 0; round < to.length; round++) {
            for (int a = 0; a < to.length; a++) {
                for (int b = 0; b < to.length; b++) {
                    in[b] |= in[a] && to[a][b] > 0;
                }
            }
        }
        return in;
    }

    /** Cramer's rule, by expansion. */
    private static BigInteger minor(int[][] to, int h, boolean replaced) {
        BigInteger[][] m = new BigInteger[h][h];
        for (int i = 0; i < h; i++) {
            for (int j = 0; j < h; j++) {
                m[i][j] = BigInteger.valueOf((i == j ? 10 : 0) - to[i][j]);
            }
            if (replaced) {
                m[i][0] = BigInteger.TEN;
            }
        }
        return determinant(m, 0, new boolean[h]);
    }

    private static BigInteger determinant(BigInteger[][] m, int row, boolean[] used) {
        if (row == m.length) {
            return BigInteger.ONE;
        }
        BigInteger sum = BigInteger.ZERO;
        boolean plus = true;
        for (int j = 0; j < m.length; j++) {
            if (!used[j]) {
                used[j] = true;
                BigInteger part = m[row][j].signum() == 0 ? BigInteger.ZERO
                        : m[row][j].multiply(determinant(m, row + 1, used));
                sum = plus ? sum.add(part) : sum.subtract(part);
                used[j] = false;
                plus = !plus;
            }
        }
        return sum;
    }

    int would(int series, int k, int h) {
        if (none(series)) {
            return UNKNOWN;
        }
        if (out(k, 0, 9) || out(h, 1, 99)) {
            return OUTSIDE;
        }
        Row r = now.rows.get(series);
        Row c = r.copy();
        c.slack = k;
        c.bound = h;
        c.rate = 0;
        c.up = 0;
        c.down = 0;
        c.day = r.day - r.past.size();
        for (int i = 0; i < r.past.size(); i++) {
            if (r.past.get(i) == NONE) {
                c.push(NONE);
            } else if (c.tell(r.past.get(i)) != 0) {
                return i;
            }
        }
        return NONE;
    }

    int ranked(int place) {
        List<Integer> order = new ArrayList<>();
        for (int i = 0; i < now.rows.size(); i++) {
            order.add(i);
        }
        order.sort((a, b) -> {
            Row p = now.rows.get(a);
            Row q = now.rows.get(b);
            return Integer.compare(Math.max(q.up, q.down) * p.bound, Math.max(p.up, p.down) * q.bound);
        });
        return out(place, 0, order.size() - 1) ? UNKNOWN : order.get(place);
    }

    int judge(int n, long row) {
        if (out(n, 1, 4) || row < 0 || String.valueOf(row).length() > 4 * n) {
            return OUTSIDE;
        }
        String digits = "0".repeat(4 * n - String.valueOf(row).length()) + row;
        State s = now.copy();
        for (int i = 0; i < n; i++) {
            if (!stands(s, digits.substring(4 * i, 4 * i + 4))) {
                return i;
            }
        }
        return NONE;
    }

    private static boolean stands(State s, String d) {
        int series = d.charAt(1) - '0';
        if (series >= s.rows.size()) {
            return false;
        }
        Row r = s.rows.get(series);
        int v = Integer.parseInt(d.substring(2));
        if (d.matches("1...")) {
            r.tell(v);
            return true;
        }
        if (d.matches("2.00")) {
            r.push(NONE);
            return true;
        }
        if (d.matches("3.00")) {
            r.up = 0;
            r.down = 0;
            return true;
        }
        return d.charAt(0) == '4' && r.up == v || d.charAt(0) == '5' && r.down == v
                || d.matches("6.0.") && r.kind == v || d.charAt(0) == '7' && r.e() == v;
    }

    int see(int series, int n, int k, int was) {
        if (none(series)) {
            return UNKNOWN;
        }
        if (out(n, 0, 9) || out(k, 0, 9) || out(was, 0, 1)) {
            return OUTSIDE;
        }
        if (seen.size() == 6) {
            return FULL;
        }
        seen.add(new int[] {series, n, k, was});
        return seen.size();
    }

    int unsee() {
        int n = seen.size();
        seen.clear();
        return n;
    }

    int which() {
        long bits = 0;
        for (int v = 0; v < 32; v++) {
            boolean all = true;
            for (int[] o : seen) {
                if (!none(o[0])) {
                    int more = ahead(o[1], v, o[0], 8) - now.rows.get(o[0]).alarms;
                    all &= o[3] == (more == o[2] ? 1 : 0);
                }
            }
            bits += all ? (long) Math.pow(2, v) : 0;
        }
        return (int) bits;
    }

    int share(int series, int q, boolean upper) {
        if (none(series)) {
            return UNKNOWN;
        }
        if (out(q, 1, 99)) {
            return OUTSIDE;
        }
        int[] found = new int[2];
        orders(new ArrayList<>(), series, q, found);
        return (int) reduced(BigInteger.valueOf(found[0]), BigInteger.valueOf(found[1]), upper);
    }

    private void orders(List<Integer> order, int series, int q, int[] found) {
        if (order.size() == now.rows.size()) {
            found[1]++;
            int sum = 0;
            for (int s : order) {
                int then = sum + now.rows.get(s).up;
                if (s == series && sum < q && then >= q) {
                    found[0]++;
                }
                sum = then;
            }
        }
        for (int s = 0; s < now.rows.size(); s++) {
            if (!order.contains(s)) {
                order.add(s);
                orders(order, series, q, found);
                order.remove(order.size() - 1);
            }
        }
    }

    int lost(int series, int v, int n, int x, boolean upper) {
        if (none(series)) {
            return UNKNOWN;
        }
        if (out(v, 0, 99) || out(n, 1, 6) || out(x, 0, 10)) {
            return OUTSIDE;
        }
        return (int) reduced(BigInteger.valueOf(lost(now.rows.get(series), v, n, x)), BigInteger.TEN.pow(n), upper);
    }

    private static long lost(Row r, int v, int n, int x) {
        if (n == 0) {
            return 0;
        }
        Row missing = r.copy();
        missing.push(NONE);
        Row counted = r.copy();
        long rung = counted.tell(v) != 0 ? Math.round(Math.pow(10, n - 1)) : lost(counted, v, n - 1, x);
        return x * lost(missing, v, n - 1, x) + (10 - x) * rung;
    }

    long seed(long v) {
        long was = seed.longValue();
        seed = BigInteger.valueOf(v);
        return was;
    }

    int drawn(int m) {
        if (out(m, 1, 20)) {
            return OUTSIDE;
        }
        State s = now.copy();
        for (int i = 0; i < m; i++) {
            seed = seed.multiply(new BigInteger("6364136223846793005"))
                    .add(new BigInteger("1442695040888963407")).mod(BigInteger.TWO.pow(64));
            int w = seed.divide(BigInteger.TWO.pow(33)).intValueExact();
            if (!s.rows.isEmpty()) {
                s.rows.get(w / 64 % s.rows.size()).tell(w % 40);
            }
        }
        return s.alarms() - now.alarms();
    }

    int keep(int slot) {
        if (out(slot, 0, 1)) {
            return UNKNOWN;
        }
        slots[slot] = now.copy();
        return now.alarms();
    }

    int again(int slot) {
        if (out(slot, 0, 1)) {
            return UNKNOWN;
        }
        if (slots[slot] == null) {
            return STATE;
        }
        now = slots[slot].copy();
        history.clear();
        return now.alarms();
    }

    int count(int what) {
        int[] all = {text.length(), now.rows.size(), now.alarms(), Integer.parseInt(now.chances), history.size(),
            seen.size()};
        return out(what, 0, 5) ? OUTSIDE : all[what];
    }

    @Override
    public String toString() {
        return text + Arrays.toString(slots);
    }
}
