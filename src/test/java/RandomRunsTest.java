import java.util.Random;

/** Random runs of calls, each answer compared with the model's; the random numbers have fixed seeds. */
public final class RandomRunsTest {
    private static final int RUNS = 3000;
    // With the calls of the last round a run stays within the 512 that an object answers.
    private static final int CALLS = 505;

    private final Random random;
    private final CountWatch x = new CountWatch();
    private final Model model = new Model();
    private final String run;
    private int calls = 0;

    private RandomRunsTest(int number) {
        random = new Random(number);
        run = "run " + number + ": ";
    }

    public static void main(String[] args) {
        for (int i = 0; i < RUNS; i++) {
            new RandomRunsTest(i).play();
        }
        Due.end("RandomRunsTest");
    }

    private void play() {
        newText();
        while (calls < CALLS) {
            if (calls < CALLS - 200 && random.nextInt(150) == 0) {
                newText();
            }
            call();
        }
    }

    private void newText() {
        same("wipe()", x.wipe(), model.wipe());
        String text = random.nextInt(6) == 0 ? spoiled(text()) : text();
        for (int i = 0; i < text.length(); i++) {
            same("write(" + (int) text.charAt(i) + ")", x.write(text.charAt(i)), model.write(text.charAt(i)));
            if (random.nextInt(8) == 0) {
                same("fault()", x.fault(), model.fault());
            }
        }
        same("fault()", x.fault(), model.fault());
        same("watch()", x.watch(), model.watch());
    }

    private String text() {
        StringBuilder text = new StringBuilder("W");
        int series = random.nextInt(4) == 0 ? random.nextInt(7) : 1 + random.nextInt(5);
        for (int i = 0; i < series; i++) {
            text.append('c').append(digits(2)).append(random.nextInt(random.nextBoolean() ? 3 : 10));
            int bound = random.nextBoolean() ? 1 + random.nextInt(6) : 1 + random.nextInt(99);
            text.append((char) ('0' + bound / 10)).append((char) ('0' + bound % 10));
            text.append(random.nextInt(5)).append(random.nextInt(2));
            text.append(digits(1 + random.nextInt(5))).append('.');
        }
        return text.toString();
    }

    private String digits(int n) {
        StringBuilder digits = new StringBuilder();
        for (int i = 0; i < n; i++) {
            digits.append(random.nextInt(10));
        }
        return digits.toString();
    }

    private String spoiled(String text) {
        StringBuilder spoiled = new StringBuilder(text);
        int at = random.nextInt(text.length());
        switch (random.nextInt(3)) {
            case 0 -> spoiled.setLength(at);
            case 1 -> spoiled.setCharAt(at, random.nextBoolean() ? digits(1).charAt(0) : (char) random.nextInt(256));
            default -> spoiled.insert(at, random.nextBoolean() ? digits(1) : ".");
        }
        return spoiled.toString();
    }

    /** A number of a range; seldom one just outside it, or far. */
    private int in(int low, int high) {
        int kind = random.nextInt(60);
        if (kind == 0) {
            return low - 1;
        }
        if (kind == 1) {
            return high + 1;
        }
        if (kind == 2) {
            int[] far = {Integer.MIN_VALUE, Integer.MAX_VALUE, 1 << 16, -2};
            return far[random.nextInt(far.length)];
        }
        return low + random.nextInt(high - low + 1);
    }

    private int row() {
        return in(0, Math.max(0, model.count(1) - 1));
    }

    /** A count, often near the expectation. */
    private int v(int series) {
        int e = model.series(series, 12) - 100;
        return random.nextInt(3) == 0 || e < -5 ? in(0, 99) : Math.max(0, e) + random.nextInt(9) - 4;
    }

    private int chances() {
        if (random.nextInt(8) == 0) {
            return in(0, 99999);
        }
        int[] digits = new int[5];
        for (int i = 0; i < 10; i++) {
            int place = random.nextInt(random.nextBoolean() ? 5 : 3);
            digits[digits[place] == 9 ? (place + 1) % 5 : place]++;
        }
        return digits[0] * 10000 + digits[1] * 1000 + digits[2] * 100 + digits[3] * 10 + digits[4];
    }

    private long doings(int n) {
        long row = 0;
        for (int i = 0; i < n; i++) {
            row = 10000 * row + doing();
        }
        int kind = random.nextInt(60);
        return kind == 0 ? -row : kind == 1 ? random.nextLong() : kind == 2 ? 10 * row : row;
    }

    private int doing() {
        int s = random.nextInt(Math.max(1, model.count(1)));
        int front = 100 * s;
        switch (random.nextInt(9)) {
            case 0:
                return 2000 + front;
            case 1:
                return 3000 + front;
            case 2:
                return 4000 + front + Math.max(0, model.series(s, 6));
            case 3:
                return 5000 + front + Math.max(0, model.series(s, 7));
            case 4:
                return 6000 + front + Math.max(0, model.series(s, 9));
            case 5:
                return 7000 + front + Math.max(0, model.series(s, 12) - 100) % 100;
            case 6:
                return random.nextInt(10000);
            default:
                return 1000 + front + Math.min(99, Math.max(0, v(s)));
        }
    }

    private void call() {
        int kind = random.nextInt(40);
        if (kind < 14) {
            act(kind);
        } else if (kind < 30) {
            predict(kind);
        } else {
            simulate(kind);
        }
        if (random.nextInt(3) == 0) {
            look();
        }
    }

    private void act(int kind) {
        int s = row();
        int v = v(s);
        int what = in(0, 3);
        switch (kind) {
            case 0 -> same("gap(" + s + ")", x.gap(s), model.gap(s));
            case 1 -> same("clear(" + s + ")", x.clear(s), model.clear(s));
            case 2 -> {
                int to = what == 1 ? in(1, random.nextBoolean() ? 99 : 6) : in(0, what == 0 ? 3 : what == 2 ? 4 : 1);
                same("set(" + s + ", " + what + ", " + to + ")", x.set(s, what, to), model.set(s, what, to));
            }
            case 3 -> {
                int w = chances();
                same("chances(" + w + ")", x.chances(w), model.chances(w));
            }
            case 4 -> same("undo()", x.undo(), model.undo());
            default -> same("tell(" + s + ", " + v + ")", x.tell(s, v), model.tell(s, v));
        }
    }

    private void predict(int kind) {
        int s = row();
        int v = v(s);
        int n = in(0, 60);
        int what = in(5, 13);
        switch (kind) {
            case 14, 15 -> same("ahead(" + n + ", " + v + ", " + s + ", " + what + ")", x.ahead(n, v, s, what),
                    model.ahead(n, v, s, what));
            case 16, 17 -> same("rings(" + s + ", " + v + ")", x.rings(s, v), model.rings(s, v));
            case 18 -> {
                int most = in(1, 30);
                same("least(" + s + ", " + most + ")", x.least(s, most), model.least(s, most));
            }
            case 19, 20, 21 -> {
                same("length(" + s + ", true)", x.length(s, true), model.length(s, true));
                same("length(" + s + ", false)", x.length(s, false), model.length(s, false));
            }
            case 22, 23 -> {
                int k = in(0, 9);
                int h = in(1, random.nextBoolean() ? 20 : 99);
                same("would(" + s + ", " + k + ", " + h + ")", x.would(s, k, h), model.would(s, k, h));
            }
            case 24, 25 -> {
                int place = in(0, 4);
                same("ranked(" + place + ")", x.ranked(place), model.ranked(place));
            }
            default -> {
                int doings = in(1, 4);
                long row = doings(Math.max(1, Math.min(4, doings)));
                same("judge(" + doings + ", " + row + ")", x.judge(doings, row), model.judge(doings, row));
            }
        }
    }

    private void simulate(int kind) {
        int s = row();
        int v = v(s);
        switch (kind) {
            case 30 -> {
                int n = in(0, 9);
                int k = in(0, random.nextBoolean() ? 1 : 9);
                int was = in(0, 1);
                same("see(" + s + ", " + n + ", " + k + ", " + was + ")", x.see(s, n, k, was),
                        model.see(s, n, k, was));
            }
            case 31 -> same("which()", x.which(), model.which());
            case 32 -> {
                if (random.nextInt(6) == 0) {
                    same("unsee()", x.unsee(), model.unsee());
                }
            }
            case 33, 34 -> {
                int q = random.nextInt(3) == 0 ? in(1, 99) : in(1, 12);
                same("share(" + s + ", " + q + ", true)", x.share(s, q, true), model.share(s, q, true));
                same("share(" + s + ", " + q + ", false)", x.share(s, q, false), model.share(s, q, false));
            }
            case 35, 36 -> {
                int n = in(1, 6);
                int tenths = in(0, 10);
                String call = "lost(" + s + ", " + v + ", " + n + ", " + tenths;
                same(call + ", true)", x.lost(s, v, n, tenths, true), model.lost(s, v, n, tenths, true));
                same(call + ", false)", x.lost(s, v, n, tenths, false), model.lost(s, v, n, tenths, false));
            }
            case 37 -> {
                long seed = random.nextBoolean() ? random.nextLong() : random.nextInt(100);
                same("seed(" + seed + ")", x.seed(seed), model.seed(seed));
            }
            case 38 -> {
                int m = in(1, 20);
                same("drawn(" + m + ")", x.drawn(m), model.drawn(m));
            }
            default -> slots();
        }
    }

    private void slots() {
        int slot = in(0, 1);
        if (random.nextInt(3) > 0) {
            same("keep(" + slot + ")", x.keep(slot), model.keep(slot));
        } else {
            same("again(" + slot + ")", x.again(slot), model.again(slot));
        }
    }

    private void look() {
        int s = row();
        int what = in(0, 13);
        same("series(" + s + ", " + what + ")", x.series(s, what), model.series(s, what));
        int place = in(0, 11);
        same("past(" + s + ", " + place + ")", x.past(s, place), model.past(s, place));
        int counted = in(0, 5);
        same("count(" + counted + ")", x.count(counted), model.count(counted));
    }

    private void same(String call, long got, long want) {
        calls++;
        Due.due(run + call, got, want);
    }
}
