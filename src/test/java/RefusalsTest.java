import java.util.ArrayList;
import java.util.List;
import java.util.function.Supplier;

/**
 * Every refused call: the error code that is due, also where two codes apply, and that the object then stands as it did
 * before. For that a second object lives through the same calls without the refused one; both must answer alike
 * whatever is asked.
 */
public final class RefusalsTest {
    private static final int UNKNOWN = CountWatch.UNKNOWN, OUTSIDE = CountWatch.OUTSIDE, STATE = CountWatch.STATE,
            FULL = CountWatch.FULL;
    private static final int MIN = Integer.MIN_VALUE, MAX = Integer.MAX_VALUE;
    private static final int[] NO_SERIES = {-1, 3, 4, 5, 9, MIN, MAX};

    private interface Call {
        long on(CountWatch x);
    }

    public static void main(String[] args) {
        withoutSeries(CountWatch::new, "new");
        withoutSeries(RefusalsTest::emptied, "emptied");
        theText();
        unknownSeries();
        unknownPlaces();
        outsideOfActs();
        outsideOfPredictions();
        outsideOfTheRest();
        impossibleNow();
        fullOfObservations();
        questions();
        Due.end("RefusalsTest");
    }

    // ---- objects that are refused something

    /** Three series with a life behind them, and an incomplete text. */
    private static CountWatch busy() {
        CountWatch x = Due.watching("Wc05104115.c201992053.c07006000.");
        x.chances(13231);
        Due.tellAll(x, 0, 5, 8, 99, 2);
        x.keep(1);
        Due.tellAll(x, 1, 20, 21, 18);
        x.gap(2);
        Due.tellAll(x, 2, 3, 0, 4, 5);
        x.set(0, 0, 2);
        x.set(1, 1, 88);
        x.clear(2);
        Due.tellAll(x, 2, 1, 1, 6);
        x.see(0, 2, 1, 1);
        x.see(2, 9, 3, 0);
        x.seed(-5);
        Due.append(x, "c");
        return x;
    }

    private static CountWatch withSixObservations() {
        CountWatch x = busy();
        for (int i = 0; i < 4; i++) {
            x.see(1, i, 0, 1);
        }
        return x;
    }

    private static CountWatch withFullText() {
        CountWatch x = busy();
        Due.append(x, "0".repeat(80 - x.count(0)));
        return x;
    }

    private static CountWatch withFaultyText() {
        CountWatch x = busy();
        Due.append(x, "!");
        return x;
    }

    private static CountWatch withoutActs() {
        CountWatch x = busy();
        x.again(1);
        return x;
    }

    private static CountWatch emptied() {
        CountWatch x = busy();
        Due.rewrite(x, "W");
        x.watch();
        return x;
    }

    // ---- what is asked of both objects

    private static void seriesOf(CountWatch x, List<Long> found) {
        for (int s = 0; s <= x.count(1); s++) {
            for (int what = 0; what < 14; what++) {
                found.add((long) x.series(s, what));
            }
            int things = x.series(s, 13);
            for (int place = 0; place <= things; place++) {
                found.add((long) x.past(s, place));
            }
            found.add((long) x.ranked(s));
        }
        for (int what = 0; what < 6; what++) {
            found.add((long) x.count(what));
        }
    }

    /** All that can be learnt of an object; it is used up by that. */
    private static List<Long> everything(CountWatch x) {
        List<Long> found = new ArrayList<>();
        seriesOf(x, found);
        found.add((long) x.fault());
        found.add((long) x.which());
        found.add((long) x.drawn(3));
        found.add(x.seed(0));
        found.add(x.length(2, true));
        int left = x.undo();
        while (left >= 0) {
            found.add((long) left);
            left = x.undo();
        }
        seriesOf(x, found);
        for (int slot = 0; slot < 2; slot++) {
            found.add((long) x.again(slot));
        }
        seriesOf(x, found);
        found.add((long) x.unsee());
        // What stands in the text shows when it is read, where it can be.
        Due.append(x, "12345105.");
        found.add((long) x.fault());
        found.add((long) x.watch());
        for (int what = 0; what < 5; what++) {
            found.add((long) x.series(3, what));
        }
        found.add((long) x.wipe());
        return found;
    }

    private static void alike(String call, CountWatch one, CountWatch other) {
        List<Long> expected = everything(one);
        List<Long> found = everything(other);
        Due.due(call + ": number of answers after it", found.size(), expected.size());
        for (int i = 0; i < Math.min(found.size(), expected.size()); i++) {
            if (!found.get(i).equals(expected.get(i))) {
                Due.due(call + ": answer " + i + " after it", found.get(i), expected.get(i));
            }
        }
    }

    private static void refused(Supplier<CountWatch> made, String call, int code, Call refusal) {
        CountWatch x = made.get();
        Due.due(call, refusal.on(x), code);
        Due.due(call + " again", refusal.on(x), code);
        alike(call, made.get(), x);
    }

    private static void busyRefuses(String call, int code, Call refusal) {
        refused(RefusalsTest::busy, call, code, refusal);
    }

    // ---- the refused calls

    private static void withoutSeries(Supplier<CountWatch> made, String which) {
        refused(made, which + ": series(0, 0)", UNKNOWN, x -> x.series(0, 0));
        refused(made, which + ": past(0, 0)", UNKNOWN, x -> x.past(0, 0));
        refused(made, which + ": tell(0, 0)", UNKNOWN, x -> x.tell(0, 0));
        refused(made, which + ": gap(0)", UNKNOWN, x -> x.gap(0));
        refused(made, which + ": clear(0)", UNKNOWN, x -> x.clear(0));
        refused(made, which + ": set(0, 1, 1)", UNKNOWN, x -> x.set(0, 1, 1));
        refused(made, which + ": ahead(1, 1, 0, 5)", UNKNOWN, x -> x.ahead(1, 1, 0, 5));
        refused(made, which + ": rings(0, 1)", UNKNOWN, x -> x.rings(0, 1));
        refused(made, which + ": least(0, 1)", UNKNOWN, x -> x.least(0, 1));
        refused(made, which + ": length(0, true)", UNKNOWN, x -> x.length(0, true));
        refused(made, which + ": length(0, false)", UNKNOWN, x -> x.length(0, false));
        refused(made, which + ": would(0, 1, 1)", UNKNOWN, x -> x.would(0, 1, 1));
        refused(made, which + ": ranked(0)", UNKNOWN, x -> x.ranked(0));
        refused(made, which + ": see(0, 1, 1, 1)", UNKNOWN, x -> x.see(0, 1, 1, 1));
        refused(made, which + ": share(0, 1, true)", UNKNOWN, x -> x.share(0, 1, true));
        refused(made, which + ": lost(0, 1, 1, 1, true)", UNKNOWN, x -> x.lost(0, 1, 1, 1, true));
        refused(made, which + ": undo()", STATE, x -> x.undo());
        refused(made, which + ": again(0)", STATE, x -> x.again(0));
        refused(made, which + ": again(1)", STATE, x -> x.again(1));
        refused(made, which + ": drawn(0)", OUTSIDE, x -> x.drawn(0));
        refused(made, which + ": judge(0, 0)", OUTSIDE, x -> x.judge(0, 0));
        refused(made, which + ": chances(0)", OUTSIDE, x -> x.chances(0));
        refused(made, which + ": write(256)", OUTSIDE, x -> x.write(256));
    }

    private static void theText() {
        for (int letter : new int[] {-1, 256, 343, -169, MIN, MAX}) {
            busyRefuses("write(" + letter + ")", OUTSIDE, x -> x.write(letter));
            refused(RefusalsTest::withFullText, "write(" + letter + ") to a full text", OUTSIDE, x -> x.write(letter));
        }
        for (int letter : new int[] {0, 46, 87, 255}) {
            refused(RefusalsTest::withFullText, "write(" + letter + ") to a full text", FULL, x -> x.write(letter));
        }
        refused(CountWatch::new, "watch() of an empty text", STATE, x -> x.watch());
        busyRefuses("watch() of an incomplete text", STATE, x -> x.watch());
        refused(RefusalsTest::withFaultyText, "watch() of a faulty text", STATE, x -> x.watch());
        refused(RefusalsTest::withFullText, "watch() of a full text", STATE, x -> x.watch());
    }

    private static void unknownSeries() {
        for (int s : NO_SERIES) {
            busyRefuses("series(" + s + ", 0)", UNKNOWN, x -> x.series(s, 0));
            busyRefuses("past(" + s + ", 0)", UNKNOWN, x -> x.past(s, 0));
            busyRefuses("tell(" + s + ", 9)", UNKNOWN, x -> x.tell(s, 9));
            busyRefuses("gap(" + s + ")", UNKNOWN, x -> x.gap(s));
            busyRefuses("clear(" + s + ")", UNKNOWN, x -> x.clear(s));
            busyRefuses("set(" + s + ", 0, 1)", UNKNOWN, x -> x.set(s, 0, 1));
            busyRefuses("ahead(1, 9, " + s + ", 5)", UNKNOWN, x -> x.ahead(1, 9, s, 5));
            busyRefuses("rings(" + s + ", 9)", UNKNOWN, x -> x.rings(s, 9));
            busyRefuses("least(" + s + ", 9)", UNKNOWN, x -> x.least(s, 9));
            busyRefuses("length(" + s + ", true)", UNKNOWN, x -> x.length(s, true));
            busyRefuses("length(" + s + ", false)", UNKNOWN, x -> x.length(s, false));
            busyRefuses("would(" + s + ", 0, 1)", UNKNOWN, x -> x.would(s, 0, 1));
            busyRefuses("see(" + s + ", 1, 1, 1)", UNKNOWN, x -> x.see(s, 1, 1, 1));
            busyRefuses("share(" + s + ", 1, true)", UNKNOWN, x -> x.share(s, 1, true));
            busyRefuses("share(" + s + ", 1, false)", UNKNOWN, x -> x.share(s, 1, false));
            busyRefuses("lost(" + s + ", 9, 1, 1, true)", UNKNOWN, x -> x.lost(s, 9, 1, 1, true));
            busyRefuses("lost(" + s + ", 9, 1, 1, false)", UNKNOWN, x -> x.lost(s, 9, 1, 1, false));
        }
        // Where another argument is wrong too, the series comes first.
        busyRefuses("series(3, 14)", UNKNOWN, x -> x.series(3, 14));
        busyRefuses("tell(3, 100)", UNKNOWN, x -> x.tell(3, 100));
        busyRefuses("set(3, 4, 0)", UNKNOWN, x -> x.set(3, 4, 0));
        busyRefuses("set(3, 0, 10)", UNKNOWN, x -> x.set(3, 0, 10));
        busyRefuses("ahead(61, 9, 3, 5)", UNKNOWN, x -> x.ahead(61, 9, 3, 5));
        busyRefuses("ahead(1, 100, 3, 5)", UNKNOWN, x -> x.ahead(1, 100, 3, 5));
        busyRefuses("ahead(1, 9, 3, 4)", UNKNOWN, x -> x.ahead(1, 9, 3, 4));
        busyRefuses("rings(3, 100)", UNKNOWN, x -> x.rings(3, 100));
        busyRefuses("least(3, 31)", UNKNOWN, x -> x.least(3, 31));
        busyRefuses("would(3, 10, 1)", UNKNOWN, x -> x.would(3, 10, 1));
        busyRefuses("would(3, 0, 100)", UNKNOWN, x -> x.would(3, 0, 100));
        busyRefuses("see(3, 10, 1, 1)", UNKNOWN, x -> x.see(3, 10, 1, 1));
        busyRefuses("see(3, 1, 10, 1)", UNKNOWN, x -> x.see(3, 1, 10, 1));
        busyRefuses("see(3, 1, 1, 2)", UNKNOWN, x -> x.see(3, 1, 1, 2));
        busyRefuses("share(3, 100, true)", UNKNOWN, x -> x.share(3, 100, true));
        busyRefuses("lost(3, 100, 1, 1, true)", UNKNOWN, x -> x.lost(3, 100, 1, 1, true));
        busyRefuses("lost(3, 9, 7, 1, true)", UNKNOWN, x -> x.lost(3, 9, 7, 1, true));
        busyRefuses("lost(3, 9, 1, 11, true)", UNKNOWN, x -> x.lost(3, 9, 1, 11, true));
    }

    private static void unknownPlaces() {
        // The pasts hold 4, 3 and 8 things.
        for (int place : new int[] {-1, 4, 11, 12, MIN, MAX}) {
            busyRefuses("past(0, " + place + ")", UNKNOWN, x -> x.past(0, place));
        }
        busyRefuses("past(1, 3)", UNKNOWN, x -> x.past(1, 3));
        busyRefuses("past(2, 8)", UNKNOWN, x -> x.past(2, 8));
        for (int place : NO_SERIES) {
            busyRefuses("ranked(" + place + ")", UNKNOWN, x -> x.ranked(place));
        }
        for (int slot : new int[] {-1, 2, 3, MIN, MAX}) {
            busyRefuses("keep(" + slot + ")", UNKNOWN, x -> x.keep(slot));
            busyRefuses("again(" + slot + ")", UNKNOWN, x -> x.again(slot));
        }
    }

    private static void outsideOfActs() {
        for (int what : new int[] {-1, 14, 15, MIN, MAX}) {
            busyRefuses("series(0, " + what + ")", OUTSIDE, x -> x.series(0, what));
        }
        for (int v : new int[] {-1, 100, MIN, MAX}) {
            busyRefuses("tell(1, " + v + ")", OUTSIDE, x -> x.tell(1, v));
        }
        int[][] sets = {{0, -1}, {0, 10}, {1, 0}, {1, 100}, {1, -1}, {2, -1}, {2, 5}, {3, -1}, {3, 2}, {-1, 1}, {4, 1},
            {MIN, 1}, {MAX, 1}, {0, MIN}, {1, MAX}, {2, MAX}, {3, MIN}};
        for (int[] s : sets) {
            busyRefuses("set(0, " + s[0] + ", " + s[1] + ")", OUTSIDE, x -> x.set(0, s[0], s[1]));
        }
        // The sum of the digits is below 10, above 10; or there are six digits, or a sign.
        for (int w : new int[] {18, 9, 0, 20, 92000, 91001, 99999, 100009, 100000, 190000, 109000, -19, -1, MIN, MAX}) {
            busyRefuses("chances(" + w + ")", OUTSIDE, x -> x.chances(w));
        }
    }

    private static void outsideOfPredictions() {
        int[][] aheads = {{-1, 9, 5}, {61, 9, 5}, {MIN, 9, 5}, {MAX, 9, 5}, {1, -1, 5}, {1, 100, 5}, {1, MAX, 5},
            {1, 9, 4}, {1, 9, 14}, {1, 9, 0}, {1, 9, MIN}, {1, 9, MAX}};
        for (int[] a : aheads) {
            busyRefuses("ahead(" + a[0] + ", " + a[1] + ", 0, " + a[2] + ")", OUTSIDE,
                    x -> x.ahead(a[0], a[1], 0, a[2]));
        }
        for (int v : new int[] {-1, 100, MIN, MAX}) {
            busyRefuses("rings(0, " + v + ")", OUTSIDE, x -> x.rings(0, v));
        }
        for (int n : new int[] {0, -1, 31, MIN, MAX}) {
            busyRefuses("least(0, " + n + ")", OUTSIDE, x -> x.least(0, n));
        }
        int[][] replays = {{-1, 1}, {10, 1}, {0, 0}, {0, 100}, {0, -1}, {MIN, 1}, {MAX, 1}, {0, MIN}, {0, MAX}};
        for (int[] r : replays) {
            busyRefuses("would(0, " + r[0] + ", " + r[1] + ")", OUTSIDE, x -> x.would(0, r[0], r[1]));
        }
        long[][] rows = {{0, 0}, {-1, 0}, {5, 1000}, {MIN, 0}, {MAX, 0}, {1, 10000}, {2, 100000000L},
            {3, 1000000000000L}, {4, 10000000000000000L}, {4, Long.MAX_VALUE}, {1, -1}, {1, -1000},
            {4, Long.MIN_VALUE}};
        for (long[] r : rows) {
            busyRefuses("judge(" + r[0] + ", " + r[1] + ")", OUTSIDE, x -> x.judge((int) r[0], r[1]));
        }
    }

    private static void outsideOfTheRest() {
        int[][] sights = {{-1, 0, 0}, {10, 0, 0}, {0, -1, 0}, {0, 10, 0}, {0, 0, -1}, {0, 0, 2}, {MIN, 0, 0},
            {0, MAX, 0}, {0, 0, MIN}};
        for (int[] s : sights) {
            String call = "see(0, " + s[0] + ", " + s[1] + ", " + s[2] + ")";
            busyRefuses(call, OUTSIDE, x -> x.see(0, s[0], s[1], s[2]));
            refused(RefusalsTest::withSixObservations, call + " as the seventh", OUTSIDE,
                    x -> x.see(0, s[0], s[1], s[2]));
        }
        for (int q : new int[] {0, -1, 100, MIN, MAX}) {
            busyRefuses("share(0, " + q + ", true)", OUTSIDE, x -> x.share(0, q, true));
            busyRefuses("share(0, " + q + ", false)", OUTSIDE, x -> x.share(0, q, false));
        }
        int[][] losses = {{-1, 1, 0}, {100, 1, 0}, {0, 0, 0}, {0, 7, 0}, {0, 1, -1}, {0, 1, 11}, {MIN, 1, 0},
            {0, MAX, 0}, {0, 31, 0}, {0, -1, 0}, {0, 1, MAX}};
        for (int[] l : losses) {
            String of = l[0] + ", " + l[1] + ", " + l[2];
            busyRefuses("lost(0, " + of + ", true)", OUTSIDE, x -> x.lost(0, l[0], l[1], l[2], true));
            busyRefuses("lost(0, " + of + ", false)", OUTSIDE, x -> x.lost(0, l[0], l[1], l[2], false));
        }
        for (int m : new int[] {0, -1, 21, MIN, MAX}) {
            busyRefuses("drawn(" + m + ")", OUTSIDE, x -> x.drawn(m));
        }
        for (int what : new int[] {-1, 6, MIN, MAX}) {
            busyRefuses("count(" + what + ")", OUTSIDE, x -> x.count(what));
        }
    }

    private static void impossibleNow() {
        refused(RefusalsTest::withoutActs, "undo() without acts", STATE, x -> x.undo());
        busyRefuses("again(0) of nothing", STATE, x -> x.again(0));
        // Series 0 has a slack of 2, from where up never rises, but a bound above 6 is looked at before.
        Supplier<CountWatch> steep = () -> {
            CountWatch x = busy();
            x.set(0, 1, 7);
            x.set(2, 1, 7);
            return x;
        };
        for (int s = 0; s < 3; s++) {
            int series = s;
            refused(steep, "length(" + s + ", true) of a high bound", STATE, x -> x.length(series, true));
            refused(steep, "length(" + s + ", false) of a high bound", STATE, x -> x.length(series, false));
        }
    }

    private static void fullOfObservations() {
        // Either of these would change which() if it were stored.
        refused(RefusalsTest::withSixObservations, "see(2, 1, 1, 1) as the seventh", FULL, x -> x.see(2, 1, 1, 1));
        refused(RefusalsTest::withSixObservations, "see(2, 1, 1, 0) as the seventh", FULL, x -> x.see(2, 1, 1, 0));
        refused(RefusalsTest::withSixObservations, "see(3, 1, 1, 0) as the seventh", UNKNOWN, x -> x.see(3, 1, 1, 0));
    }

    private static void changesNothing(String call, Call question) {
        CountWatch x = busy();
        long first = question.on(x);
        Due.due(call + " asked again", question.on(x), first);
        alike(call, busy(), x);
    }

    /** Predictions change nothing, whatever they answer. */
    private static void questions() {
        for (int s = 0; s < 3; s++) {
            int series = s;
            String of = " of series " + s;
            changesNothing("ahead" + of, x -> x.ahead(60, 99, series, 8));
            changesNothing("ahead of none" + of, x -> x.ahead(0, 0, series, 5));
            changesNothing("rings" + of, x -> x.rings(series, 0));
            changesNothing("least" + of, x -> x.least(series, 30));
            changesNothing("length" + of, x -> x.length(series, true));
            changesNothing("would" + of, x -> x.would(series, 0, 1));
            changesNothing("share" + of, x -> x.share(series, 2, true));
            changesNothing("lost" + of, x -> x.lost(series, 0, 6, 5, true));
            changesNothing("ranked" + of, x -> x.ranked(series));
            changesNothing("series" + of, x -> x.series(series, 6));
            changesNothing("past" + of, x -> x.past(series, 0));
        }
        changesNothing("which", x -> x.which());
        changesNothing("fault", x -> x.fault());
        changesNothing("judge", x -> x.judge(4, 1099110020003200L));
        changesNothing("judge with a wrong doing", x -> x.judge(2, 10998000L));
        changesNothing("count", x -> x.count(2));
        changesNothing("drawn, but for the seed", x -> {
            int alarms = x.drawn(20);
            x.seed(-5);
            return alarms;
        });
    }
}
