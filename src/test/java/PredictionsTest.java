/** Promises 14 to 20: predictions, the ranking and judging. */
public final class PredictionsTest {
    private static final int UNKNOWN = CountWatch.UNKNOWN, OUTSIDE = CountWatch.OUTSIDE, STATE = CountWatch.STATE,
            NONE = CountWatch.NONE;
    // Base 5, slack 1, bound 4, rate 0, no restart: the expectation is 5.
    private static final String PLAIN = "c05104005.";

    public static void main(String[] args) {
        ahead();
        rings();
        least();
        lengths();
        lengthsWithoutEnd();
        wrongLengths();
        would();
        wouldOfThePast();
        ranked();
        judge();
        judgeOnACopy();
        wrongRows();
        nothingChanges();
        Due.end("PredictionsTest");
    }

    private static void ahead() {
        CountWatch x = Due.watching("W" + PLAIN + "c05999109.");
        int[] due = {2, 0, 0, 1, 1, 1, 80, 105, 2};
        for (int what = 5; what <= 13; what++) {
            Due.due("ahead(2, 8, 0, " + what + ")", x.ahead(2, 8, 0, what), due[what - 5]);
        }
        for (int what = 5; what <= 13; what++) {
            Due.due("ahead(0, 8, 0, " + what + ")", x.ahead(0, 8, 0, what), x.series(0, what));
        }
        // up is 2 after a count of 8; the second one is an alarm without restart, so 3, 4, ..: 2, 0, 2, 0
        Due.due("alarms in 60", x.ahead(60, 8, 0, 8), 30);
        Due.due("things after 60", x.ahead(60, 8, 0, 13), 12);
        Due.due("no alarm ahead", x.ahead(60, 5, 0, 10), NONE);
        // 16 * (9 - 9 + 5) - 80 = 0
        Due.due("level ahead", x.ahead(5, 9, 1, 11), 80);
        Due.due("level ahead", x.ahead(2, 13, 1, 11), 80 + 32 + 16);
        Due.due("ahead(60, 99, 1, 5)", x.ahead(60, 99, 1, 5), 60);
        Due.due("ahead(1, 0, 0, 9)", x.ahead(1, 0, 0, 9), 2);
        int[][] wrong = {{-1, 0, 5}, {61, 0, 5}, {1, -1, 5}, {1, 100, 5}, {1, 0, 4}, {1, 0, 14}, {1, 0, -1}};
        for (int[] w : wrong) {
            Due.due("ahead(" + w[0] + ", " + w[1] + ", 0, " + w[2] + ")", x.ahead(w[0], w[1], 0, w[2]), OUTSIDE);
            Due.due("the same of series 2", x.ahead(w[0], w[1], 2, w[2]), UNKNOWN);
        }
        Due.due("ahead of series -1", x.ahead(1, 1, -1, 5), UNKNOWN);
    }

    private static void rings() {
        CountWatch x = Due.watching("W" + PLAIN + "c05060005.c05061005.");
        Due.due("at once", x.rings(0, 10), 1);
        Due.due("in two", x.rings(0, 9), 2);
        Due.due("at once by the lowest number", x.rings(0, 0), 1);
        Due.due("at once by the highest number", x.rings(0, 99), 1);
        Due.due("in four", x.rings(0, 7), 4);
        Due.due("in four, below", x.rings(0, 3), 4);
        Due.due("never above", x.rings(0, 6), NONE);
        Due.due("never below", x.rings(0, 4), NONE);
        Due.due("in 60", x.rings(1, 6), 60);
        Due.due("in 61", x.rings(2, 6), NONE);
        Due.due("rings(0, -1)", x.rings(0, -1), OUTSIDE);
        Due.due("rings(0, 100)", x.rings(0, 100), OUTSIDE);
        Due.due("rings(3, 100)", x.rings(3, 100), UNKNOWN);
        Due.due("rings(-1, 0)", x.rings(-1, 0), UNKNOWN);
        x.tell(0, 9);
        Due.due("with up at 3", x.rings(0, 7), 1);
        // An alarm that was is none to come.
        x.tell(0, 9);
        Due.due("after an alarm", x.rings(0, 9), 2);
    }

    private static void least() {
        CountWatch x = Due.watching("W" + PLAIN + "c05199005.c00104005.");
        Due.due("below, in one", x.least(0, 1), 0);
        Due.due("only above, in one", x.least(2, 1), 5);
        Due.due("only above, in two", x.least(2, 2), 3);
        Due.due("only above, in three", x.least(2, 3), 3);
        Due.due("only above, in four", x.least(2, 4), 2);
        Due.due("only above, in 30", x.least(2, 30), 2);
        Due.due("none in one", x.least(1, 1), NONE);
        // 94 above needs two counts
        Due.due("in two", x.least(1, 2), 56);
        Due.due("in 30", x.least(1, 30), 0);
        // base 0, f = 5, slack 0, bound 99: only 99 reaches it at once
        Due.due("the highest number", Due.watching("Wc00099005.").least(0, 1), 99);
        Due.due("least(0, 0)", x.least(0, 0), OUTSIDE);
        Due.due("least(0, 31)", x.least(0, 31), OUTSIDE);
        Due.due("least(3, 31)", x.least(3, 31), UNKNOWN);
        Due.due("least(-1, 1)", x.least(-1, 1), UNKNOWN);
    }

    private static void length(int slack, int bound, int chances, long above, long below) {
        CountWatch x = Due.watching("Wc05" + slack + "0" + bound + "005.");
        x.chances(chances);
        Due.fraction("length of slack " + slack + ", bound " + bound + ", chances " + chances, x.length(0, true),
                x.length(0, false), above, below);
    }

    private static void lengths() {
        // Bound 1: the first step upwards.
        length(0, 1, 2620, 5, 1);
        length(0, 1, 2530, 10, 3);
        length(0, 1, 19, 1, 1);
        length(1, 1, 12421, 10, 1);
        // L0 = 5 + L1, L1 = 10
        length(0, 2, 2620, 15, 1);
        // L0 = 10 + L1, 0.8 L1 = 1 + 0.7 L0
        length(1, 2, 12421, 90, 1);
        // An even walk that waits at 0 half of the time needs h * (h + 1) counts.
        for (int h = 1; h <= 6; h++) {
            length(0, h, 5050, h * (h + 1), 1);
        }
        // 0.1 one up and 0.9 two up: L1 of bound 2 is 1, L0 = 1 + 0.1
        length(0, 2, 19, 11, 10);
        // Without slack and with a step up each time: L(h) = 1 + 0.5 L(h - 1) + 0.5 L(h - 2), L(1) = 1
        length(0, 2, 55, 3, 2);
        length(0, 3, 55, 9, 4);
        length(0, 4, 55, 23, 8);
        // Two up or two down, from 0 with bound 3: values 0 and 2; L0 = 1 + L2 / 2 + L0 / 2, L2 = 1 + L0 / 2
        length(0, 3, 50005, 6, 1);
        // Slack 1: one up with 0.1, else one or three down
        length(1, 2, 90001, 110, 1);
    }

    private static void lengthsWithoutEnd() {
        CountWatch x = Due.watching("Wc05004005.c05104005.c05204005.c05901005.");
        for (int series = 1; series < 4; series++) {
            Due.due("length(" + series + ", true)", x.length(series, true), NONE);
            Due.due("length(" + series + ", false)", x.length(series, false), NONE);
        }
        x.chances(46000);
        Due.due("only downwards", x.length(0, true), NONE);
        Due.due("only downwards", x.length(0, false), NONE);
        x.chances(91);
        Due.due("one or two up, slack 1", x.length(1, false) > 0 ? 1 : 0, 1);
        Due.due("one or two up, slack 2", x.length(2, true), NONE);
    }

    private static void wrongLengths() {
        CountWatch x = Due.watching("Wc05007005.c05206005.c05299005.");
        Due.due("bound 7", x.length(0, true), STATE);
        Due.due("bound 7, denominator", x.length(0, false), STATE);
        Due.due("bound 6", x.length(1, true), NONE);
        Due.due("bound 99 that cannot be reached", x.length(2, true), STATE);
        Due.due("no series", x.length(3, true), UNKNOWN);
        Due.due("no series", x.length(-1, false), UNKNOWN);
        x.set(0, 1, 6);
        // the even walk above, but waiting in 0.6 of all counts: 42 / 0.4
        Due.due("bound 6 without slack", x.length(0, true), 105);
        x.tell(0, 8);
        Due.due("up is 3", x.series(0, 6), 3);
        Due.due("up at the beginning does not matter", x.length(0, true), 105);
    }

    private static void would() {
        CountWatch x = Due.watching("Wc05199005.");
        Due.due("would of an empty past", x.would(0, 0, 1), NONE);
        Due.tellAll(x, 0, 7, 4);
        x.gap(0);
        Due.tellAll(x, 0, 7, 2, 1);
        // slack 0: up 2, 1, -, 3, 0, 0; down 0, 1, -, 0, 3, 7
        Due.due("would(0, 0, 1)", x.would(0, 0, 1), 0);
        Due.due("would(0, 0, 2)", x.would(0, 0, 2), 0);
        Due.due("would(0, 0, 3)", x.would(0, 0, 3), 3);
        Due.due("would(0, 0, 4)", x.would(0, 0, 4), 5);
        Due.due("would(0, 0, 7)", x.would(0, 0, 7), 5);
        Due.due("would(0, 0, 8)", x.would(0, 0, 8), NONE);
        // slack 2: up 0; down 0, 0, -, 0, 1, 3
        Due.due("would(0, 2, 1)", x.would(0, 2, 1), 4);
        Due.due("would(0, 2, 3)", x.would(0, 2, 3), 5);
        Due.due("would(0, 9, 1)", x.would(0, 9, 1), NONE);
        Due.due("would(0, 0, 99)", x.would(0, 0, 99), NONE);
        int[][] wrong = {{-1, 1}, {10, 1}, {0, 0}, {0, 100}, {0, -1}};
        for (int[] w : wrong) {
            Due.due("would(0, " + w[0] + ", " + w[1] + ")", x.would(0, w[0], w[1]), OUTSIDE);
            Due.due("would(1, " + w[0] + ", " + w[1] + ")", x.would(1, w[0], w[1]), UNKNOWN);
        }
        Due.due("would(-1, 0, 1)", x.would(-1, 0, 1), UNKNOWN);
    }

    private static void wouldOfThePast() {
        // Expectations 5, 9, 1 in turn; as many are counted, but 9 on day 12, where 5 are expected.
        CountWatch x = Due.watching("Wc0599900591.");
        int[] season = {5, 9, 1};
        for (int day = 0; day < 14; day++) {
            x.tell(0, day == 12 ? 9 : season[day % 3]);
        }
        // The past holds the days 2 to 13.
        Due.due("the digits of the days", x.would(0, 0, 4), 10);
        Due.due("the digits of the days", x.would(0, 0, 5), NONE);
        // Two things, and a past that begins with day 0: the same season.
        x = Due.watching("Wc0599900591.");
        x.tell(0, 5);
        x.tell(0, 9);
        Due.due("a short past", x.would(0, 0, 1), NONE);
        x.tell(0, 4);
        Due.due("a short past", x.would(0, 0, 3), 2);
        Due.due("a short past", x.would(0, 0, 4), NONE);
        // With a rate, the level as it is now holds for all: 80, then 96 (of 7, half of 32), so that 6 are expected.
        x = Due.watching("Wc05999105.");
        x.tell(0, 5);
        x.tell(0, 7);
        Due.due("the level", x.series(0, 11), 96);
        Due.due("down at once", x.would(0, 0, 1), 0);
        Due.due("then up", x.would(0, 0, 2), NONE);
        // The sums of the present do not matter, nor does an alarm that was.
        x = Due.watching("Wc05003005.");
        Due.tellAll(x, 0, 7, 9, 6);
        Due.due("from 0", x.would(0, 0, 7), 2);
        Due.due("from 0", x.would(0, 0, 8), NONE);
    }

    private static void ranked(CountWatch x, String when, int... due) {
        for (int place = 0; place < due.length; place++) {
            Due.due(when + ": ranked(" + place + ")", x.ranked(place), due[place]);
        }
        Due.due(when + ": ranked behind all", x.ranked(due.length), UNKNOWN);
    }

    private static void ranked() {
        CountWatch x = Due.watching("Wc05008005.c05004005.c05097005.c05099005.c05096005.");
        ranked(x, "all at 0", 0, 1, 2, 3, 4);
        Due.due("ranked(-1)", x.ranked(-1), UNKNOWN);
        Due.due("ranked(MAX)", x.ranked(Integer.MAX_VALUE), UNKNOWN);
        Due.due("ranked(-9)", x.ranked(-9), UNKNOWN);
        // 0/8, 0/4, 48/97, 49/99, 48/96
        x.tell(2, 53);
        x.tell(3, 54);
        x.tell(4, 53);
        ranked(x, "near one half", 4, 3, 2, 0, 1);
        // 4/8, 2/4: equal to 48/96
        x.tell(0, 1);
        x.tell(1, 7);
        ranked(x, "equal to one half", 0, 1, 4, 3, 2);
        // down 3/4
        x.clear(1);
        x.tell(1, 2);
        ranked(x, "down", 1, 0, 4, 3, 2);
        x.set(4, 1, 1);
        ranked(x, "above the bound", 4, 1, 0, 3, 2);
        Due.due("without series", new CountWatch().ranked(0), UNKNOWN);
    }

    private static void judge(CountWatch x, int n, long row, int due) {
        Due.due("judge(" + n + ", " + row + ")", x.judge(n, row), due);
    }

    private static void judge() {
        CountWatch x = Due.watching("W" + PLAIN + "c30199015.");
        judge(x, 1, 1000, NONE);
        judge(x, 1, 1099, NONE);
        judge(x, 1, 1199, NONE);
        judge(x, 1, 1200, 0);
        judge(x, 1, 1900, 0);
        judge(x, 1, 2000, NONE);
        judge(x, 1, 2001, 0);
        judge(x, 1, 2010, 0);
        judge(x, 1, 3000, NONE);
        judge(x, 1, 3001, 0);
        judge(x, 1, 3010, 0);
        judge(x, 1, 4000, NONE);
        judge(x, 1, 4001, 0);
        judge(x, 1, 5000, NONE);
        judge(x, 1, 5001, 0);
        judge(x, 1, 6000, NONE);
        judge(x, 1, 6001, 0);
        judge(x, 1, 6010, 0);
        judge(x, 1, 7005, NONE);
        judge(x, 1, 7130, NONE);
        judge(x, 1, 7129, 0);
        judge(x, 1, 8000, 0);
        judge(x, 1, 9000, 0);
        judge(x, 1, 0, 0);
        judge(x, 2, 40000000L, 1);
        judge(x, 4, 1008400250006000L, NONE);
        judge(x, 4, 1008100860014000L, NONE);
        judge(x, 4, 1008100860016000L, 3);
        judge(x, 4, 1008300040001002L, NONE);
        judge(x, 3, 100110016002L, NONE);
        judge(x, 4, 1009400310004000L, NONE);
        judge(x, 4, 1009400310004003L, 3);
        judge(x, 4, 1009400220009000L, 1);
        judge(x, 3, 110051295000L, NONE);
        judge(x, 2, 11994168L, NONE);
        judge(x, 2, 11994149L, 1);
        judge(x, 2, 11294198L, 1);
        // the expectation may be beyond two digits, and below 0
        CountWatch far = Due.watching("Wc99999009.c00999000.");
        judge(far, 1, 7003, 0);
        judge(far, 1, 7099, 0);
        judge(far, 1, 7195, 0);
        judge(far, 1, 7105, 0);
        judge(far, 1, 7100, 0);
    }

    private static void judgeOnACopy() {
        // Expectations 5 and 9: a gap brings the next.
        CountWatch x = Due.watching("Wc051041059.");
        judge(x, 3, 700520007009L, NONE);
        // 15 is an alarm; the next two counts of 9 and 6 follow the season
        judge(x, 4, 1015600170095000L, NONE);
        x.tell(0, 8);
        judge(x, 2, 40023000L, NONE);
        judge(x, 3, 300040005000L, NONE);
        judge(x, 1, 4002, NONE);
        Due.due("up stays", x.series(0, 6), 2);
        Due.due("day stays", x.series(0, 5), 1);
        Due.due("no act", x.count(4), 1);
    }

    private static void wrongRows() {
        CountWatch x = Due.watching("W" + PLAIN);
        judge(x, 0, 0, OUTSIDE);
        judge(x, 5, 0, OUTSIDE);
        judge(x, -1, 1000, OUTSIDE);
        judge(x, Integer.MAX_VALUE, 1000, OUTSIDE);
        judge(x, Integer.MIN_VALUE, 1000, OUTSIDE);
        judge(x, 1, -1, OUTSIDE);
        judge(x, 1, 9999, 0);
        judge(x, 1, 10000, OUTSIDE);
        judge(x, 2, 99999999L, 0);
        judge(x, 2, 100000000L, OUTSIDE);
        judge(x, 3, 999999999999L, 0);
        judge(x, 3, 1000000000000L, OUTSIDE);
        judge(x, 4, 9999999999999999L, 0);
        judge(x, 4, 10000000000000000L, OUTSIDE);
        judge(x, 4, Long.MAX_VALUE, OUTSIDE);
        judge(x, 4, Long.MIN_VALUE, OUTSIDE);
        judge(x, 2, 1000, 0);
    }

    private static void nothingChanges() {
        CountWatch x = Due.watching("W" + PLAIN + "c05104105.");
        Due.tellAll(x, 0, 8, 99);
        Due.tellAll(x, 1, 5, 0, 7);
        int[] before = new int[28];
        for (int i = 0; i < before.length; i++) {
            before[i] = x.series(i / 14, i % 14);
        }
        x.ahead(60, 99, 0, 8);
        x.rings(0, 6);
        x.least(1, 30);
        x.length(0, true);
        x.would(1, 0, 99);
        x.ranked(1);
        x.judge(4, 1099110010002000L);
        x.which();
        x.share(0, 3, true);
        x.lost(1, 9, 6, 5, true);
        x.drawn(20);
        for (int i = 0; i < before.length; i++) {
            Due.due("unchanged: series(" + i / 14 + ", " + i % 14 + ")", x.series(i / 14, i % 14), before[i]);
        }
        Due.due("no acts", x.count(4), 5);
    }
}
