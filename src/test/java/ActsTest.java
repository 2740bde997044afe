/** Promises 6 to 13: properties, the past, acts and undoing. */
public final class ActsTest {
    private static final int UNKNOWN = CountWatch.UNKNOWN, OUTSIDE = CountWatch.OUTSIDE, STATE = CountWatch.STATE,
            NONE = CountWatch.NONE;
    // Base 5, slack 1, bound 4, rate 0, no restart: the expectation is 5.
    private static final String PLAIN = "c05104005.";

    public static void main(String[] args) {
        properties();
        seasons();
        pastThings();
        sums();
        alarms();
        alarmOfBoth();
        restarts();
        level();
        levelAtItsEnds();
        gaps();
        clearing();
        setting();
        chances();
        undoing();
        undoingAll();
        Due.end("ActsTest");
    }

    private static void wrongSeries(CountWatch x, int series) {
        String of = "(" + series + ")";
        Due.due("series" + of, x.series(series, 0), UNKNOWN);
        Due.due("series, what wrong too" + of, x.series(series, 14), UNKNOWN);
        Due.due("past" + of, x.past(series, 0), UNKNOWN);
        Due.due("tell" + of, x.tell(series, 0), UNKNOWN);
        Due.due("tell, v wrong too" + of, x.tell(series, 100), UNKNOWN);
        Due.due("gap" + of, x.gap(series), UNKNOWN);
        Due.due("clear" + of, x.clear(series), UNKNOWN);
        Due.due("set" + of, x.set(series, 0, 0), UNKNOWN);
        Due.due("set, what wrong too" + of, x.set(series, 4, 0), UNKNOWN);
        Due.due("no act" + of, x.count(4), 0);
    }

    private static void properties() {
        CountWatch x = Due.watching("W" + PLAIN + PLAIN);
        for (int series : new int[] {-1, 2, 5, Integer.MAX_VALUE, Integer.MIN_VALUE}) {
            wrongSeries(x, series);
        }
        for (int what : new int[] {-1, 14, Integer.MAX_VALUE, Integer.MIN_VALUE}) {
            Due.due("series(0, " + what + ")", x.series(0, what), OUTSIDE);
        }
        Due.due("series(0, 10) without alarm", x.series(0, 10), NONE);
        Due.due("tell(1, 9)", x.tell(1, 9), 0);
        Due.due("series 0 is untouched", x.series(0, 5), 0);
        Due.due("series(1, 5)", x.series(1, 5), 1);
        Due.due("series(1, 6)", x.series(1, 6), 3);
        Due.due("series(1, 13)", x.series(1, 13), 1);
    }

    private static void seasons() {
        // The expectation runs through 5 + f - 5 for f = 0, 9, 5, 0, ..
        CountWatch x = Due.watching("Wc0599900095.");
        int[] due = {100, 109, 105, 100, 109, 105, 100};
        for (int day = 0; day < due.length; day++) {
            Due.due("expectation on day " + day, x.series(0, 12), due[day]);
            Due.due("gap of day " + day, x.gap(0), day + 1);
        }
        x = Due.watching("Wc059990010829.");
        int[] five = {101, 100, 108, 102, 109, 101, 100};
        for (int day = 0; day < five.length; day++) {
            Due.due("expectation on day " + day + " of five digits", x.series(0, 12), five[day]);
            x.gap(0);
        }
        Due.due("lowest expectation", Due.watching("Wc00001000.").series(0, 12), 95);
        Due.due("highest expectation", Due.watching("Wc99001009.").series(0, 12), 203);
    }

    private static void pastThings() {
        CountWatch x = Due.watching("Wc05999005.");
        Due.due("past(0, 0) at first", x.past(0, 0), UNKNOWN);
        x.tell(0, 0);
        x.gap(0);
        x.tell(0, 99);
        int[] first = {0, NONE, 99, UNKNOWN};
        for (int i = 0; i < first.length; i++) {
            Due.due("past(0, " + i + ") of three", x.past(0, i), first[i]);
        }
        Due.due("past(0, -1)", x.past(0, -1), UNKNOWN);
        Due.due("past(0, MAX)", x.past(0, Integer.MAX_VALUE), UNKNOWN);
        for (int v = 10; v < 19; v++) {
            x.tell(0, v);
        }
        Due.due("twelve things, the oldest", x.past(0, 0), 0);
        Due.due("twelve things, the latest", x.past(0, 11), 18);
        Due.due("past(0, 12)", x.past(0, 12), UNKNOWN);
        Due.due("things", x.series(0, 13), 12);
        x.gap(0);
        Due.due("thirteen things, the oldest is gone", x.past(0, 0), NONE);
        x.tell(0, 20);
        Due.due("fourteen things, the oldest", x.past(0, 0), 99);
        Due.due("fourteen things, a gap late", x.past(0, 10), NONE);
        Due.due("fourteen things, the latest", x.past(0, 11), 20);
        Due.due("still twelve", x.series(0, 13), 12);
        Due.due("the day goes on", x.series(0, 5), 14);
    }

    private static void state(CountWatch x, String when, int up, int down, int alarms) {
        Due.due(when + ": up", x.series(0, 6), up);
        Due.due(when + ": down", x.series(0, 7), down);
        Due.due(when + ": alarms", x.series(0, 8), alarms);
    }

    private static void sums() {
        CountWatch x = Due.watching("Wc05109005.");
        Due.due("tell(0, -1)", x.tell(0, -1), OUTSIDE);
        Due.due("tell(0, 100)", x.tell(0, 100), OUTSIDE);
        Due.due("no act", x.count(4), 0);
        x.tell(0, 6);
        state(x, "as much above as the slack", 0, 0, 0);
        x.tell(0, 9);
        state(x, "4 above", 3, 0, 0);
        x.tell(0, 5);
        state(x, "as expected", 2, 0, 0);
        x.tell(0, 1);
        state(x, "4 below", 0, 3, 0);
        x.tell(0, 8);
        state(x, "3 above", 2, 0, 0);
        x.tell(0, 3);
        state(x, "2 below", 0, 1, 0);
        Due.due("the level without a rate", x.series(0, 11), 80);
    }

    private static void alarms() {
        CountWatch x = Due.watching("W" + PLAIN);
        Due.due("one below the bound", x.tell(0, 9), 0);
        Due.due("at the bound", x.tell(0, 7), 1);
        state(x, "alarm above", 0, 0, 1);
        Due.due("kind", x.series(0, 9), 1);
        Due.due("day of the alarm", x.series(0, 10), 1);
        Due.due("day", x.series(0, 5), 2);
        Due.due("alarm below", x.tell(0, 0), 2);
        state(x, "alarm below", 0, 0, 2);
        Due.due("kind", x.series(0, 9), 2);
        Due.due("day of the alarm", x.series(0, 10), 2);
        Due.due("no alarm", x.tell(0, 5), 0);
        Due.due("kind stays", x.series(0, 9), 2);
        Due.due("day of the alarm stays", x.series(0, 10), 2);
        Due.due("count(2)", x.count(2), 2);
    }

    /** Without slack, up and down may both be above 0; a new bound of 3 is then reached by both. */
    private static CountWatch both() {
        // Expectations 0 and 9.
        CountWatch x = Due.watching("Wc050990009.");
        x.tell(0, 3);
        Due.due("both: up", x.series(0, 6), 3);
        x.tell(0, 9);
        x.tell(0, 4);
        x.tell(0, 5);
        // up: 3, 3, 7, 3; down: 0, 0, 0, 4
        Due.due("both: up", x.series(0, 6), 3);
        Due.due("both: down", x.series(0, 7), 4);
        Due.due("both: set(0, 1, 3)", x.set(0, 1, 3), 99);
        return x;
    }

    private static void alarmOfBoth() {
        CountWatch x = both();
        Due.due("sums above a new bound are no alarm", x.series(0, 8), 0);
        Due.due("they stay", x.series(0, 6) + x.series(0, 7), 7);
        Due.due("alarm of both", x.tell(0, 0), 3);
        state(x, "alarm of both", 0, 0, 1);
        Due.due("kind", x.series(0, 9), 3);
        x = both();
        x.set(0, 3, 1);
        Due.due("alarm of both, restarting", x.tell(0, 0), 3);
        state(x, "alarm of both, restarting", 1, 1, 1);
        x = both();
        x.set(0, 3, 1);
        x.set(0, 1, 4);
        Due.due("alarm of down alone, restarting", x.tell(0, 0), 2);
        state(x, "alarm of down alone, restarting", 0, 2, 1);
    }

    private static void restarts() {
        CountWatch x = Due.watching("Wc05107015.");
        Due.due("alarm above", x.tell(0, 99), 1);
        state(x, "half the bound, rounded down", 3, 0, 1);
        Due.due("alarm below", x.tell(0, 0), 0);
        state(x, "no alarm", 0, 4, 1);
        Due.due("alarm below", x.tell(0, 0), 2);
        state(x, "half the bound below", 0, 3, 2);
        x = Due.watching("Wc05101015.");
        Due.due("a bound of 1", x.tell(0, 7), 1);
        state(x, "half of 1", 0, 0, 1);
    }

    private static void level(String series, int v, int want) {
        CountWatch x = Due.watching("W" + series);
        x.tell(0, v);
        Due.due("level of " + series + " after " + v, x.series(0, 11), want);
    }

    private static void level() {
        // Level 80, f = 5: 16 * v - 80 is shifted.
        level("c05999005.", 14, 80);
        level("c05999105.", 14, 80 + 72);
        level("c05999405.", 14, 80 + 9);
        level("c05999305.", 4, 80 - 2);
        level("c05999405.", 4, 80 - 1);
        // 16 * (4 - 6 + 5) - 80 = -32, f = 6
        level("c05999206.", 4, 80 - 8);
        // -16 * 9 >> 4, and beyond: an arithmetic shift
        level("c10999405.", 1, 160 - 9);
        // a sum above 0 holds the level
        level("c05099105.", 6, 80);
        level("c05099105.", 4, 80);
        level("c05199105.", 6, 88);
        // and so does an alarm
        level("c05001105.", 9, 80);
        CountWatch x = Due.watching("Wc05999105.");
        x.tell(0, 6);
        x.tell(0, 6);
        Due.due("a level between", x.series(0, 11), 92);
        Due.due("its expectation", x.series(0, 12), 105);
        x.tell(0, 6);
        x.tell(0, 6);
        x.tell(0, 6);
        // 92, 94, 95, 95: (96 - 95) >> 1 is 0
        Due.due("the level stops", x.series(0, 11), 95);
        x.tell(0, 5);
        // (80 - 95) >> 1 is -8
        Due.due("rounded down below 0", x.series(0, 11), 87);
    }

    private static void levelAtItsEnds() {
        CountWatch x = Due.watching("Wc00999109.");
        // 16 * (0 - 9 + 5) = -64, to 0
        x.tell(0, 0);
        Due.due("not below 0", x.series(0, 11), 0);
        x = Due.watching("Wc99999100.");
        // 16 * (99 + 5) = 1664, halfway is 1624
        x.tell(0, 99);
        Due.due("not above 1584", x.series(0, 11), 1584);
    }

    private static void gaps() {
        CountWatch x = Due.watching("Wc05104105.");
        x.tell(0, 8);
        Due.due("gap(0)", x.gap(0), 2);
        Due.due("gap(0)", x.gap(0), 3);
        state(x, "after gaps", 2, 0, 0);
        Due.due("level after gaps", x.series(0, 11), 80);
        Due.due("day after gaps", x.series(0, 5), 3);
        Due.due("past after gaps", x.past(0, 2), NONE);
        Due.due("acts after gaps", x.count(4), 3);
    }

    private static void clearing() {
        CountWatch x = both();
        int acts = x.count(4);
        Due.due("clear(0)", x.clear(0), 7);
        state(x, "cleared", 0, 0, 0);
        Due.due("the day stays", x.series(0, 5), 4);
        Due.due("the past stays", x.series(0, 13), 4);
        Due.due("an act", x.count(4), acts + 1);
        Due.due("clear(0) of nothing", x.clear(0), 0);
        Due.due("an act too", x.count(4), acts + 2);
    }

    private static void setting() {
        CountWatch x = Due.watching("Wc05104205.");
        int[][] changes = {{0, 9, 1}, {0, 0, 9}, {1, 99, 4}, {1, 1, 99}, {2, 4, 2}, {2, 0, 4}, {3, 1, 0}, {3, 0, 1}};
        for (int[] c : changes) {
            Due.due("set(0, " + c[0] + ", " + c[1] + ")", x.set(0, c[0], c[1]), c[2]);
            Due.due("series(0, " + (c[0] + 1) + ")", x.series(0, c[0] + 1), c[1]);
        }
        Due.due("acts", x.count(4), changes.length);
        int[][] wrong = {{0, -1}, {0, 10}, {1, 0}, {1, 100}, {2, -1}, {2, 5}, {3, -1}, {3, 2}, {-1, 0}, {4, 0}, {4, 1},
            {Integer.MIN_VALUE, 1}, {1, Integer.MAX_VALUE}};
        for (int[] w : wrong) {
            Due.due("set(0, " + w[0] + ", " + w[1] + ")", x.set(0, w[0], w[1]), OUTSIDE);
        }
        Due.due("no acts", x.count(4), changes.length);
        Due.due("base stays", x.series(0, 0), 5);
        Due.due("level stays", x.series(0, 11), 80);
        x = Due.watching("W" + PLAIN);
        x.tell(0, 9);
        Due.due("a bound below up", x.set(0, 1, 2), 4);
        state(x, "a bound below up", 3, 0, 0);
        Due.due("the next count rings", x.tell(0, 5), 1);
    }

    private static void chances() {
        CountWatch x = new CountWatch();
        int[] some = {55, 5, 91, 10009, 90001, 22222, 19, 99000, 1234};
        int before = 2620;
        for (int w : some) {
            int sum = w % 10 + w / 10 % 10 + w / 100 % 10 + w / 1000 % 10 + w / 10000;
            boolean fits = sum == 10;
            Due.due("chances(" + w + ")", x.chances(w), fits ? before : OUTSIDE);
            before = fits ? w : before;
            Due.due("count(3)", x.count(3), before);
        }
        for (int w : new int[] {-1, 100000, 100009, 190000, -55, 0, 99999, Integer.MAX_VALUE, Integer.MIN_VALUE}) {
            Due.due("chances(" + w + ")", x.chances(w), OUTSIDE);
        }
        Due.due("count(3)", x.count(3), 1234);
        Due.due("acts", x.count(4), 7);
        Due.due("undo()", x.undo(), 6);
        Due.due("count(3)", x.count(3), 19);
    }

    private static void undoing() {
        CountWatch x = Due.watching("W" + PLAIN + PLAIN);
        x.tell(0, 8);
        x.tell(1, 0);
        x.gap(0);
        x.set(0, 1, 50);
        x.clear(0);
        x.chances(91);
        Due.due("six acts", x.count(4), 6);
        Due.due("undo chances", x.undo(), 5);
        Due.due("chances", x.count(3), 2620);
        Due.due("undo clear", x.undo(), 4);
        Due.due("up", x.series(0, 6), 2);
        Due.due("undo set", x.undo(), 3);
        Due.due("bound", x.series(0, 2), 4);
        Due.due("undo gap", x.undo(), 2);
        Due.due("day", x.series(0, 5), 1);
        Due.due("past", x.past(0, 1), UNKNOWN);
        Due.due("undo an alarm", x.undo(), 1);
        Due.due("alarms", x.series(1, 8), 0);
        Due.due("kind", x.series(1, 9), 0);
        Due.due("day of the alarm", x.series(1, 10), NONE);
        Due.due("series 0 stays", x.series(0, 6), 2);
        Due.due("undo the first", x.undo(), 0);
        Due.due("up", x.series(0, 6), 0);
        Due.due("undo nothing", x.undo(), STATE);
        Due.due("undo nothing again", x.undo(), STATE);
        Due.due("act after all", x.gap(0), 1);
        Due.due("undo it", x.undo(), 0);
    }

    private static void undoingAll() {
        CountWatch x = Due.watching("Wc05999105.");
        for (int i = 0; i < 20; i++) {
            x.tell(0, i);
        }
        Due.due("no more than 14 acts", x.count(4), 14);
        x.see(0, 1, 1, 1);
        x.seed(3);
        x.write(87);
        for (int left = 13; left >= 0; left--) {
            Due.due("undo to " + left, x.undo(), left);
            Due.due("day", x.series(0, 5), 6 + left);
            Due.due("latest thing", x.past(0, Math.min(11, 5 + left)), 5 + left);
        }
        Due.due("undo the fifteenth", x.undo(), STATE);
        Due.due("the oldest thing is back", x.past(0, 0), 0);
        Due.due("observations stay", x.count(5), 1);
        Due.due("the text stays", x.count(0), 12);
        Due.due("the seed stays", x.seed(0), 3);
        // 80 moves halfway to 0, 16, .., each time rounded down
        int level = 80;
        for (int v = 0; v < 6; v++) {
            level += 16 * v - level >> 1;
        }
        Due.due("the level is back", x.series(0, 11), level);
    }
}
