import java.math.BigInteger;

/** The edges that the promises 14 to 30 name; each group quotes the sentence that it holds to. */
public final class AnswerEdgesTest {
    private static final int UNKNOWN = CountWatch.UNKNOWN, OUTSIDE = CountWatch.OUTSIDE, STATE = CountWatch.STATE,
            FULL = CountWatch.FULL, NONE = CountWatch.NONE;

    public static void main(String[] args) {
        aheadAtItsEnds();
        aheadOnACopy();
        ringsAtItsEnds();
        leastAtItsEnds();
        lengthAtItsEnds();
        lengthOfNone();
        lengthOrder();
        wouldAtItsEnds();
        wouldSums();
        wouldOfAFullPast();
        rankedAtItsEnds();
        judgeAtItsEnds();
        judgeImpossible();
        judgeDigits();
        seeAtItsEnds();
        whichAtItsEnds();
        ignoredObservations();
        shareAtItsEnds();
        shareOfEqualOnes();
        lostAtItsEnds();
        lostUntilTheLastDay();
        seedAtItsEnds();
        drawnAtItsEnds();
        drawnBits();
        slotsAtTheirEnds();
        slotsWithoutSeries();
        slotsAreApart();
        countAtItsEnds();
        Due.end("AnswerEdgesTest");
    }

    // ---- predictions

    /** "how often, 0 to 60"; "the number, 0 to 99"; "the property, 5 to 13 as for series()". */
    private static void aheadAtItsEnds() {
        CountWatch x = Due.watching("Wc50199005.");
        x.tell(0, 53);
        for (int what = 5; what <= 13; what++) {
            Due.due("ahead(0, 99, 0, " + what + ")", x.ahead(0, 99, 0, what), x.series(0, what));
        }
        Due.due("no alarm in none", x.ahead(0, 99, 0, 10), NONE);
        Due.due("no alarm in 60", x.ahead(60, 51, 0, 10), NONE);
        Due.due("the day in 60", x.ahead(60, 51, 0, 5), 61);
        Due.due("things in 60", x.ahead(60, 51, 0, 13), 12);
        Due.due("things in 10", x.ahead(10, 51, 0, 13), 11);
        Due.due("ahead(-1)", x.ahead(-1, 51, 0, 5), OUTSIDE);
        Due.due("ahead(61)", x.ahead(61, 51, 0, 5), OUTSIDE);
        Due.due("ahead of 0", x.ahead(1, 0, 0, 7), 49);
        Due.due("ahead of 99", x.ahead(1, 99, 0, 6), 50);
        Due.due("ahead of -1", x.ahead(1, -1, 0, 7), OUTSIDE);
        Due.due("ahead of 100", x.ahead(1, 100, 0, 6), OUTSIDE);
        Due.due("what 5", x.ahead(1, 51, 0, 5), 2);
        Due.due("what 13", x.ahead(1, 51, 0, 13), 2);
        Due.due("what 4", x.ahead(1, 51, 0, 4), OUTSIDE);
        Due.due("what 14", x.ahead(1, 51, 0, 14), OUTSIDE);
        Due.due("series -1", x.ahead(1, 51, -1, 5), UNKNOWN);
        Due.due("series 1", x.ahead(1, 51, 1, 5), UNKNOWN);
    }

    /** "Predictions change nothing; in them, counting has all its effects on a copy of the series." */
    private static void aheadOnACopy() {
        // Expectations 5 and 9 on even and odd days, rate 1, restart at 2.
        CountWatch x = Due.watching("Wc051041159.");
        x.gap(0);
        int[] counts = {10, 8, 5, 9, 9, 9, 0, 5, 99, 6, 6, 6};
        for (int v : counts) {
            int[] ahead = new int[14];
            for (int what = 5; what <= 13; what++) {
                ahead[what] = x.ahead(1, v, 0, what);
            }
            int[] twice = {x.ahead(2, v, 0, 6), x.ahead(2, v, 0, 7), x.ahead(2, v, 0, 11)};
            x.tell(0, v);
            for (int what = 5; what <= 13; what++) {
                Due.due("after " + v + ": series(0, " + what + ")", x.series(0, what), ahead[what]);
            }
            x.tell(0, v);
            Due.due("twice: up", x.series(0, 6), twice[0]);
            Due.due("twice: down", x.series(0, 7), twice[1]);
            Due.due("twice: level", x.series(0, 11), twice[2]);
            x.undo();
        }
    }

    /** "the lowest number of counts, 1 to 60; NONE if there is none". */
    private static void ringsAtItsEnds() {
        CountWatch x = Due.watching("Wc50060005.c50061005.c50059005.c50001005.");
        Due.due("59 counts", x.rings(2, 51), 59);
        Due.due("60 counts", x.rings(0, 51), 60);
        Due.due("61 counts", x.rings(1, 51), NONE);
        Due.due("59 counts below", x.rings(2, 49), 59);
        Due.due("60 counts below", x.rings(0, 49), 60);
        Due.due("61 counts below", x.rings(1, 49), NONE);
        Due.due("one count", x.rings(3, 51), 1);
        Due.due("never", x.rings(3, 50), NONE);
        Due.due("rings(0, 0)", x.rings(0, 0), 2);
        Due.due("rings(0, 99)", x.rings(0, 99), 2);
        Due.due("rings(0, -1)", x.rings(0, -1), OUTSIDE);
        Due.due("rings(0, 100)", x.rings(0, 100), OUTSIDE);
        Due.due("rings(4, 0)", x.rings(4, 0), UNKNOWN);
        Due.due("rings(-1, 100)", x.rings(-1, 100), UNKNOWN);
        x.tell(1, 51);
        Due.due("60 counts after one", x.rings(1, 51), 60);
        // A sum that a lower bound has left at the bound rings with the next count; but not if it comes down.
        x.tell(0, 60);
        x.set(0, 1, 10);
        Due.due("as expected", x.rings(0, 50), 1);
        Due.due("one less", x.rings(0, 49), 10);
    }

    /** "the lowest number v from 0 to 99 for which rings() is at most n"; "the number of counts, 1 to 30". */
    private static void leastAtItsEnds() {
        CountWatch x = Due.watching("Wc00030005.c00031005.c00099005.c99001005.c00999005.");
        Due.due("1 in 30", x.least(0, 30), 1);
        Due.due("2 in 29", x.least(0, 29), 2);
        Due.due("2 in 15", x.least(0, 15), 2);
        Due.due("3 in 14", x.least(0, 14), 3);
        Due.due("30 in 1", x.least(0, 1), 30);
        Due.due("2 in 30", x.least(1, 30), 2);
        Due.due("99 in 1", x.least(2, 1), 99);
        Due.due("50 in 2", x.least(2, 2), 50);
        Due.due("0 in 1", x.least(3, 1), 0);
        Due.due("none in 1", x.least(4, 1), NONE);
        Due.due("59 in 2", x.least(4, 2), 59);
        Due.due("least(0, 0)", x.least(0, 0), OUTSIDE);
        Due.due("least(0, 31)", x.least(0, 31), OUTSIDE);
        Due.due("least(5, 1)", x.least(5, 1), UNKNOWN);
        Due.due("least(-1, 0)", x.least(-1, 0), UNKNOWN);
        Due.due("none above, in 30", Due.watching("Wc99999009.").least(0, 30), 0);
        // 9 of each count are slack.
        x = Due.watching("Wc00910005.");
        Due.due("19 in 1", x.least(0, 1), 19);
        Due.due("14 in 2", x.least(0, 2), 14);
        Due.due("10 in 30", x.least(0, 30), 10);
    }

    private static void length(CountWatch x, String when, long above, long below) {
        Due.fraction("length of " + when, x.length(0, true), x.length(0, false), above, below);
    }

    /** "STATE if the bound is above 6"; "t is -2, -1, 0, 1 or 2"; "(this count included)". */
    private static void lengthAtItsEnds() {
        CountWatch x = Due.watching("Wc50001005.");
        length(x, "bound 1", 5, 1);
        x.set(0, 1, 6);
        length(x, "bound 6", 105, 1);
        x.set(0, 1, 7);
        length(x, "bound 7", STATE, STATE);
        x.set(0, 1, 99);
        length(x, "bound 99", STATE, STATE);
        x.set(0, 1, 1);
        x.chances(19);
        length(x, "bound 1, reached at once", 1, 1);
        x.set(0, 0, 1);
        // Two up less the slack, with 0.9: 10 / 9, in lowest terms
        length(x, "bound 1, slack 1", 10, 9);
        x.chances(28);
        length(x, "bound 1, slack 1", 5, 4);
        x.set(0, 1, 2);
        // 1 up with 0.8, else as it was: 2 * 5 / 4
        length(x, "bound 2, slack 1", 5, 2);
        x.set(0, 1, 6);
        length(x, "bound 6, slack 1", 15, 2);
        // One up with 0.9 and one down with 0.1: L(k) - L(k + 1) = d(k), d(0) = 10 / 9, d(k) = (10 + d(k - 1)) / 9
        x.set(0, 0, 0);
        x.set(0, 1, 3);
        x.chances(1090);
        length(x, "bound 3, mostly up", 2620, 729);
        // Two up with 0.1 and two down with 0.9, from 0 over 2 and 4: d = 10, then 10 + 9 * 10, then 10 + 9 * 100
        x.set(0, 1, 6);
        x.chances(90001);
        length(x, "bound 6 by twos, mostly down", 10 + 100 + 910, 1);
        x.set(0, 1, 5);
        length(x, "bound 5 by twos", 1020, 1);
        x.set(0, 1, 4);
        length(x, "bound 4 by twos", 110, 1);
        // Up itself, as it is now, is not asked for.
        x.tell(0, 53);
        Due.due("up", x.series(0, 6), 3);
        length(x, "bound 4 by twos, with up at 3", 110, 1);
    }

    /** "NONE (for both) if it is possible that up never reaches the bound". */
    private static void lengthOfNone() {
        int[][] dead = {{0, 10009, 0}, {0, 91000, 1}, {0, 46000, 1}, {1, 91, 0}, {1, 190, 1}, {2, 19, 1}, {9, 19, 1},
            {1, 73000, 1}, {1, 2620, 1}, {0, 2620, 0}, {1, 3511, 0}, {2, 3511, 1}};
        for (int[] d : dead) {
            for (int bound = 1; bound <= 6; bound++) {
                CountWatch x = Due.watching("Wc50" + d[0] + "0" + bound + "005.");
                x.chances(d[1]);
                String when = "slack " + d[0] + ", bound " + bound + ", chances " + d[1];
                Due.due("numerator is none: " + when, x.length(0, true) == NONE ? 1 : 0, d[2]);
                Due.due("denominator is none: " + when, x.length(0, false) == NONE ? 1 : 0, d[2]);
                Due.due("denominator is above 0: " + when, x.length(0, false) > 0 ? 1 : 0, 1 - d[2]);
            }
        }
    }

    /** "Each return description lists the error codes in the order in which they are checked"; NONE comes last. */
    private static void lengthOrder() {
        CountWatch x = Due.watching("Wc50907005.c50906005.");
        Due.due("bound 7 that is never reached", x.length(0, true), STATE);
        Due.due("bound 7 that is never reached", x.length(0, false), STATE);
        Due.due("bound 6 that is never reached", x.length(1, true), NONE);
        Due.due("no series", x.length(2, true), UNKNOWN);
        Due.due("no series", x.length(-1, false), UNKNOWN);
    }

    /** "the slack, 0 to 9"; "the bound, 1 to 99"; "the first count after which up or down is at least h". */
    private static void wouldAtItsEnds() {
        CountWatch x = Due.watching("Wc00999005.c99999005.c50999005.");
        for (int s = 0; s < 3; s++) {
            Due.due("an empty past", x.would(s, 0, 1), NONE);
            x.gap(s);
            Due.due("a gap alone", x.would(s, 0, 1), NONE);
        }
        x.tell(0, 99);
        Due.due("99 above, bound 99", x.would(0, 0, 99), 1);
        Due.due("90 above, bound 99", x.would(0, 9, 99), NONE);
        Due.due("90 above, bound 90", x.would(0, 9, 90), 1);
        Due.due("90 above, bound 91", x.would(0, 9, 91), NONE);
        x.tell(1, 0);
        Due.due("99 below, bound 99", x.would(1, 0, 99), 1);
        Due.due("90 below, bound 91", x.would(1, 9, 91), NONE);
        Due.due("90 below, bound 90", x.would(1, 9, 90), 1);
        x.tell(2, 51);
        Due.due("1 above, bound 1", x.would(2, 0, 1), 1);
        Due.due("1 above, slack 1", x.would(2, 1, 1), NONE);
        Due.due("slack -1", x.would(2, -1, 1), OUTSIDE);
        Due.due("slack 10", x.would(2, 10, 1), OUTSIDE);
        Due.due("bound 0", x.would(2, 0, 0), OUTSIDE);
        Due.due("bound 100", x.would(2, 0, 100), OUTSIDE);
        Due.due("series 3", x.would(3, 10, 100), UNKNOWN);
        Due.due("series -1", x.would(-1, 0, 1), UNKNOWN);
        // Neither slack nor bound of the series itself matters, nor what its alarms have done to its sums.
        x.set(2, 0, 0);
        x.set(2, 1, 1);
        x.tell(2, 51);
        x.tell(2, 51);
        Due.due("three above", x.would(2, 0, 3), 3);
        Due.due("four above", x.would(2, 0, 4), NONE);
    }

    /** "Beginning with up = 0 and down = 0 .. as in step 1 of counting .. gaps are skipped": no sum is below 0. */
    private static void wouldSums() {
        CountWatch x = Due.watching("Wc50999005.");
        Due.tellAll(x, 0, 30, 40, 53);
        x.gap(0);
        Due.tellAll(x, 0, 53, 90, 47);
        x.gap(0);
        x.tell(0, 47);
        // Slack 0: up is 0, 0, 3, 3, 6, 46, 43, 43, 40, and down 20, 30, 27, 27, 24, 0, 3, 3, 6.
        int[][] ofSlack0 = {{1, 0}, {20, 0}, {21, 1}, {30, 1}, {31, 5}, {46, 5}, {47, NONE}};
        for (int[] p : ofSlack0) {
            Due.due("slack 0, bound " + p[0], x.would(0, 0, p[0]), p[1]);
        }
        // Of counts that are 2 above and 2 below in turn, each begins anew at 0 with slack 1.
        x = Due.watching("Wc50999005.");
        Due.tellAll(x, 0, 52, 48, 52, 48, 52, 52, 48, 48, 48);
        Due.due("slack 1, bound 1", x.would(0, 1, 1), 0);
        Due.due("slack 1, bound 2", x.would(0, 1, 2), 5);
        Due.due("slack 1, bound 3", x.would(0, 1, 3), 8);
        Due.due("slack 1, bound 4", x.would(0, 1, 4), NONE);
        x = Due.watching("Wc50999005.");
        Due.tellAll(x, 0, 48, 52, 48, 48, 52, 52, 52);
        Due.due("the other way round, bound 2", x.would(0, 1, 2), 3);
        Due.due("the other way round, bound 3", x.would(0, 1, 3), 6);
        x = Due.watching("Wc50999005.");
        Due.tellAll(x, 0, 50, 50, 52);
        Due.due("from 0, bound 1", x.would(0, 1, 1), 2);
        Due.tellAll(x, 0, 50, 50, 48);
        Due.due("from 0, bound 2", x.would(0, 0, 2), 2);
        Due.due("from 0, bound 3", x.would(0, 0, 3), NONE);
    }

    /** "with the digit f for the day on which each of them was counted"; "the place in the past". */
    private static void wouldOfAFullPast() {
        String digits = "90527";
        for (int length = 1; length <= 5; length++) {
            CountWatch x = Due.watching("Wc5099900" + digits.substring(0, length) + ".");
            for (int day = 0; day < 29; day++) {
                int e = 45 + digits.charAt(day % length) - '0';
                x.tell(0, day == 22 ? e + 1 : e);
                // Day 22 is the latest of a full past at first, and is gone after day 33.
                boolean there = day >= 22;
                int size = Math.min(12, day + 1);
                Due.due("season of " + length + " after day " + day, x.would(0, 0, 1),
                        there ? 22 - (day + 1 - size) : NONE);
                Due.due("bound 2", x.would(0, 0, 2), NONE);
            }
            for (int day = 29; day < 36; day++) {
                x.gap(0);
                Due.due("gaps to day " + day, x.would(0, 0, 1), day < 34 ? 33 - day : NONE);
            }
        }
        // The last place of all.
        CountWatch x = Due.watching("Wc50999005.");
        for (int day = 0; day < 11; day++) {
            x.tell(0, 50);
        }
        x.tell(0, 60);
        Due.due("the last place", x.would(0, 0, 10), 11);
        x.gap(0);
        Due.due("the last place but one", x.would(0, 0, 10), 10);
    }

    private static void ranking(CountWatch x, String when, int... due) {
        for (int place = 0; place < due.length; place++) {
            Due.due(when + ": ranked(" + place + ")", x.ranked(place), due[place]);
        }
        Due.due(when + ": behind the last", x.ranked(due.length), UNKNOWN);
        Due.due(when + ": before the first", x.ranked(-1), UNKNOWN);
    }

    /** "the quotient of max(up, down) and the bound (exactly) .. for equal quotients by their numbers". */
    private static void rankedAtItsEnds() {
        ranking(new CountWatch(), "no series");
        ranking(Due.watching("W"), "a watch without series");
        CountWatch x = Due.watching("Wc50001005.");
        ranking(x, "one series", 0);
        x = Due.watching("Wc50099005.c50001005.c50050005.c50033005.c50098005.");
        ranking(x, "all at 0", 0, 1, 2, 3, 4);
        // 97 / 99 is below 97 / 98 and above 48 / 49, which is 96 / 98.
        x = Due.watching("Wc00099005.c00049005.c00098005.c00098005.c00099005.");
        x.tell(0, 97);
        x.tell(1, 48);
        x.tell(2, 97);
        x.tell(3, 96);
        x.tell(4, 98);
        // 0.97979.., 0.97959.., 0.98979.., 0.97959.., 0.98989..
        ranking(x, "close quotients", 4, 2, 0, 1, 3);
        // The greater one of both sums counts.
        x = Due.watching("Wc50099005.c50099005.c50099005.");
        x.tell(0, 60);
        x.tell(0, 54);
        x.tell(1, 40);
        x.tell(1, 46);
        x.tell(2, 53);
        ranking(x, "up 14, down 14, up 3", 0, 1, 2);
        x.tell(0, 49);
        ranking(x, "up 13, down 14, up 3", 1, 0, 2);
        x.tell(2, 30);
        ranking(x, "up 13, down 14, down 20", 2, 1, 0);
        // A bound below the sums: 20 / 1, 13 / 99, 14 / 1.
        x.set(1, 1, 1);
        x.set(2, 1, 1);
        ranking(x, "above the bound", 2, 1, 0);
        x.set(0, 1, 13);
        x.clear(2);
        ranking(x, "at the bound", 1, 0, 2);
    }

    // ---- judging

    private static void judge(CountWatch x, int n, long row, int due) {
        Due.due("judge(" + n + ", " + row + ")", x.judge(n, row), due);
    }

    /** "the number of doings, 1 to 4"; "4 * n decimal digits with leading zeros"; "negative or .. more than 4 * n". */
    private static void judgeAtItsEnds() {
        CountWatch x = Due.watching("Wc50109005.");
        judge(x, 1, 1000, NONE);
        judge(x, 2, 10001000L, NONE);
        judge(x, 3, 100010001000L, NONE);
        judge(x, 4, 1000100010001000L, NONE);
        judge(x, 0, 0, OUTSIDE);
        judge(x, 5, 1000, OUTSIDE);
        judge(x, -1, 0, OUTSIDE);
        judge(x, 1, 9999, 0);
        judge(x, 1, 10000, OUTSIDE);
        judge(x, 2, 10000, 0);
        judge(x, 2, 99999999L, 0);
        judge(x, 2, 100000000L, OUTSIDE);
        judge(x, 3, 999999999999L, 0);
        judge(x, 3, 1000000000000L, OUTSIDE);
        judge(x, 4, 9999999999999999L, 0);
        judge(x, 4, 10000000000000000L, OUTSIDE);
        judge(x, 4, Long.MAX_VALUE, OUTSIDE);
        judge(x, 4, -1, OUTSIDE);
        judge(x, 1, -1000, OUTSIDE);
        judge(x, 4, Long.MIN_VALUE, OUTSIDE);
        judge(x, 1, 0, 0);
        judge(x, 4, 0, 0);
        // Leading zeros are an impossible first doing.
        judge(x, 4, 1000, 0);
        judge(x, 4, 100010001000L, 0);
        // The index of each place.
        judge(x, 4, 8000100010001000L, 0);
        judge(x, 4, 1000800010001000L, 1);
        judge(x, 4, 1000100080001000L, 2);
        judge(x, 4, 1000100010008000L, 3);
        judge(x, 4, 1000100080008000L, 2);
        // 32 bits are too few for the row.
        judge(x, 4, 1000400010001000L, NONE);
        judge(x, 4, 1000400110001000L, 1);
    }

    /** "Any other four digits, and a series that does not exist, are impossible." */
    private static void judgeImpossible() {
        CountWatch x = new CountWatch();
        for (int digits = 0; digits <= 9999; digits++) {
            if (digits % 400 == 0) {
                x = Due.watching("Wc00099005.c00099005.c00099005.");
            }
            int kind = digits / 1000;
            int series = digits / 100 % 10;
            int value = digits % 100;
            boolean good = switch (kind) {
                case 1 -> true;
                // All sums, the kind and the expectation are 0.
                case 2, 3, 4, 5, 6, 7 -> value == 0;
                default -> false;
            };
            int due = good && series < 3 ? NONE : 0;
            int got = x.judge(1, digits);
            if (got != due) {
                Due.due("judge(1, " + digits + ")", got, due);
            }
        }
        x = Due.watching("Wc00099005.c00099005.");
        // A gap with digits behind it, and a kind of two digits.
        judge(x, 1, 2000, NONE);
        judge(x, 1, 2001, 0);
        judge(x, 1, 2010, 0);
        judge(x, 1, 3010, 0);
        judge(x, 1, 6000, NONE);
        judge(x, 1, 6010, 0);
        judge(x, 1, 1199, NONE);
        judge(x, 1, 1299, 0);
        judge(new CountWatch(), 1, 1000, 0);
        judge(new CountWatch(), 4, 0, 0);
    }

    /** Statements "about the copy as it is then". */
    private static void judgeDigits() {
        CountWatch x = Due.watching("Wc50099005.c50010019.");
        // up 49 and then 98, of two digits; 99 would be an alarm
        judge(x, 3, 109910994098L, NONE);
        judge(x, 4, 1099109940986000L, NONE);
        judge(x, 4, 1099109910516001L, NONE);
        judge(x, 4, 1099109910514000L, NONE);
        judge(x, 3, 100010005099L, 2);
        judge(x, 3, 100110015098L, NONE);
        judge(x, 3, 100110015097L, 2);
        // Of the other series nothing changes.
        judge(x, 3, 109941007154L, NONE);
        judge(x, 2, 10994149L, 1);
        // e is 54: 64 is an alarm, which restarts at 5; 44 one below
        judge(x, 4, 1164610141055100L, NONE);
        judge(x, 4, 1144610251054100L, NONE);
        judge(x, 4, 1164310041006101L, NONE);
        judge(x, 2, 11636100L, NONE);
        judge(x, 2, 11446101L, 1);
        // A kind of 3, of sums that a lower bound leaves.
        x.tell(0, 55);
        x.tell(0, 48);
        x.set(0, 1, 2);
        judge(x, 3, 400350026000L, NONE);
        judge(x, 2, 10506003L, NONE);
        judge(x, 2, 10516003L, 1);
        judge(x, 2, 10516001L, NONE);
        // Doings follow one another, so that clearing takes the alarm away.
        judge(x, 3, 300010506000L, NONE);
        judge(x, 3, 200010506003L, NONE);
        // A gap brings the next day's digit, here 9.
        CountWatch season = Due.watching("Wc500990059.");
        judge(season, 3, 705020007054L, NONE);
        judge(season, 3, 200020007050L, NONE);
        judge(season, 2, 20007050L, 1);
        judge(season, 3, 105070545000L, NONE);
        Due.due("up stays", x.series(0, 6), 3);
        Due.due("down stays", x.series(0, 7), 2);
        Due.due("day stays", x.series(0, 5), 2);
        // An expectation beyond two digits, or below 0, is none of them.
        x = Due.watching("Wc99099009.c99099005.c00099000.");
        judge(x, 1, 7003, 0);
        judge(x, 1, 7099, 0);
        judge(x, 1, 7199, NONE);
        judge(x, 1, 7205, 0);
        judge(x, 1, 7295, 0);
        judge(x, 1, 7200, 0);
    }

    // ---- observations

    /** "0 to 9"; "FULL if there are 6 observations"; "Returns the number of observations that there were". */
    private static void seeAtItsEnds() {
        CountWatch x = Due.watching("Wc50001005.");
        Due.due("unsee() of none", x.unsee(), 0);
        int[][] good = {{0, 0, 0}, {9, 0, 0}, {0, 9, 0}, {9, 9, 1}, {0, 0, 1}, {1, 1, 1}};
        for (int i = 0; i < good.length; i++) {
            Due.due("see no. " + (i + 1), x.see(0, good[i][0], good[i][1], good[i][2]), i + 1);
            Due.due("count(5)", x.count(5), i + 1);
        }
        Due.due("see no. 7", x.see(0, 1, 1, 1), FULL);
        Due.due("count(5)", x.count(5), 6);
        Due.due("unsee() of six", x.unsee(), 6);
        Due.due("count(5)", x.count(5), 0);
        Due.due("unsee() again", x.unsee(), 0);
        for (int i = 1; i <= 6; i++) {
            Due.due("see no. " + i + " again", x.see(0, 1, 1, 1), i);
        }
        Due.due("see no. 7 again", x.see(0, 1, 1, 1), FULL);
        Due.due("nothing of those before", x.which(), -1);
    }

    private static int bit(int v) {
        return 1 << v;
    }

    /** "the numbers v from 0 to 31"; "bit v stands for v (31 is the sign bit)". */
    private static void whichAtItsEnds() {
        Due.due("no observation, no series", new CountWatch().which(), -1);
        for (int e = 0; e <= 33; e++) {
            CountWatch x = Due.watching("Wc" + e / 10 + e % 10 + "001005.");
            Due.due("no observation", x.which(), -1);
            // Only a count as expected is no alarm.
            x.see(0, 1, 0, 1);
            Due.due("only " + e, x.which(), e < 32 ? bit(e) : 0);
            x.unsee();
            x.see(0, 1, 0, 0);
            Due.due("all but " + e, x.which(), e < 32 ? ~bit(e) : -1);
            x.see(0, 1, 1, 0);
            Due.due("none", x.which(), 0);
            x.unsee();
            // No count is no alarm.
            x.see(0, 0, 0, 1);
            Due.due("none in none", x.which(), -1);
            x.see(0, 0, 1, 0);
            Due.due("not one in none", x.which(), -1);
            x.see(0, 9, 9, 1);
            Due.due("nine in nine", x.which(), e < 32 ? ~bit(e) : -1);
            x.see(0, 9, 8, 0);
            Due.due("not eight in nine", x.which(), e < 32 ? ~bit(e) : -1);
            x.see(0, 0, 0, 0);
            Due.due("not none in none", x.which(), 0);
        }
        // Alarms that were do not count, and all observations hold together.
        CountWatch x = Due.watching("Wc31001005.c30002005.");
        x.tell(0, 0);
        x.see(0, 1, 0, 1);
        Due.due("the sign bit alone", x.which(), Integer.MIN_VALUE);
        x.see(1, 1, 0, 1);
        Due.due("29 to 31 for the other", x.which(), Integer.MIN_VALUE);
        x.see(1, 2, 1, 1);
        Due.due("31 is one alarm in two", x.which(), Integer.MIN_VALUE);
        x.see(1, 2, 1, 0);
        Due.due("and is not", x.which(), 0);
    }

    /** "Observations about series that do not exist are ignored as long as they do not exist." */
    private static void ignoredObservations() {
        CountWatch x = Due.watching("Wc10001005.c11001005.c12001005.c13001005.c14001005.");
        for (int s = 0; s < 5; s++) {
            x.see(s, 1, 0, 0);
        }
        x.see(4, 1, 0, 1);
        Due.due("all five", x.which(), 0);
        int[] due = {-1, ~0x400, ~0xC00, ~0x1C00, ~0x3C00, 0};
        for (int n : new int[] {0, 4, 3, 2, 1, 5}) {
            Due.rewrite(x, "Wc10001005.c11001005.c12001005.c13001005.c14001005.".substring(0, 1 + 10 * n));
            Due.due("watch() of " + n, x.watch(), n);
            Due.due("the first " + n, x.which(), due[n]);
            Due.due("all are stored", x.count(5), 6);
        }
    }

    // ---- probabilities

    private static void share(CountWatch x, int series, int q, int above, int below) {
        Due.fraction("share(" + series + ", " + q + ")", x.share(series, q, true), x.share(series, q, false), above,
                below);
    }

    /** "the sum of up of all series before it is less than q, and together with its own up at least q"; q "1 to 99". */
    private static void shareAtItsEnds() {
        CountWatch x = Due.watching("Wc00099005.");
        share(x, 0, 1, 0, 1);
        x.tell(0, 98);
        share(x, 0, 1, 1, 1);
        share(x, 0, 98, 1, 1);
        share(x, 0, 99, 0, 1);
        Due.due("share(0, 0)", x.share(0, 0, true), OUTSIDE);
        Due.due("share(0, 100)", x.share(0, 100, true), OUTSIDE);
        Due.due("share(0, 100), denominator", x.share(0, 100, false), OUTSIDE);
        Due.due("share(1, 100)", x.share(1, 100, true), UNKNOWN);
        x = Due.watching("Wc00099005.c00099005.");
        x.tell(0, 98);
        x.tell(1, 1);
        // 98 and 1
        share(x, 0, 99, 1, 2);
        share(x, 1, 99, 1, 2);
        share(x, 0, 98, 1, 1);
        share(x, 1, 98, 0, 1);
        share(x, 0, 1, 1, 2);
        share(x, 1, 1, 1, 2);
        share(x, 0, 2, 1, 1);
        x.clear(1);
        share(x, 0, 99, 0, 1);
        share(x, 1, 99, 0, 1);
        // down is no up
        x.tell(1, 0);
        share(x, 0, 1, 1, 1);
        share(x, 1, 1, 0, 1);
    }

    /** "all orders being equally likely"; "Fractions are in lowest terms". */
    private static void shareOfEqualOnes() {
        String five = "Wc50099005.c50099005.c50099005.c50099005.c50099005.";
        for (int n = 1; n <= 5; n++) {
            CountWatch x = Due.watching(five.substring(0, 1 + 10 * n));
            for (int s = 0; s < n; s++) {
                x.tell(s, 52);
            }
            for (int q = 1; q <= 2 * n; q++) {
                share(x, n - 1, q, 1, n);
            }
            share(x, 0, 2 * n + 1, 0, 1);
        }
        // up 4, 3, 2, 1, 0 and q 5
        CountWatch x = Due.watching(five);
        for (int s = 0; s < 5; s++) {
            x.tell(s, 54 - s);
        }
        share(x, 4, 5, 0, 1);
        share(x, 3, 5, 1, 12);
        share(x, 2, 5, 1, 4);
        share(x, 1, 5, 1, 4);
        share(x, 0, 5, 5, 12);
        // All of them are needed: the last one is decisive.
        share(x, 3, 10, 1, 4);
        share(x, 4, 10, 0, 1);
    }

    private static void lost(CountWatch x, int v, int n, int tenths, int above, int below) {
        Due.fraction("lost(0, " + v + ", " + n + ", " + tenths + ")", x.lost(0, v, n, tenths, true),
                x.lost(0, v, n, tenths, false), above, below);
    }

    /** "the number of days, 1 to 6"; "tenths, 0 to 10"; "(0 is 0 / 1)". */
    private static void lostAtItsEnds() {
        CountWatch x = Due.watching("Wc50001005.");
        int power = 1;
        for (int n = 1; n <= 6; n++) {
            power *= 10;
            lost(x, 51, n, 0, 1, 1);
            lost(x, 51, n, 10, 0, 1);
            lost(x, 50, n, 0, 0, 1);
            lost(x, 50, n, 5, 0, 1);
            lost(x, 49, n, 5, (1 << n) - 1, 1 << n);
            int gone = BigInteger.valueOf(9).pow(n).intValue();
            lost(x, 0, n, 9, power - gone, power);
            lost(x, 99, n, 1, power - 1, power);
        }
        Due.due("lost(0, -1, 1, 1)", x.lost(0, -1, 1, 1, true), OUTSIDE);
        Due.due("lost(0, 100, 1, 1)", x.lost(0, 100, 1, 1, true), OUTSIDE);
        Due.due("lost(0, 51, 0, 1)", x.lost(0, 51, 0, 1, true), OUTSIDE);
        Due.due("lost(0, 51, 7, 1)", x.lost(0, 51, 7, 1, true), OUTSIDE);
        Due.due("lost(0, 51, 1, -1)", x.lost(0, 51, 1, -1, true), OUTSIDE);
        Due.due("lost(0, 51, 1, 11)", x.lost(0, 51, 1, 11, true), OUTSIDE);
        Due.due("lost(1, 51, 1, 11)", x.lost(1, 51, 1, 11, true), UNKNOWN);
        Due.due("lost(-1, 51, 1, 1)", x.lost(-1, 51, 1, 1, false), UNKNOWN);
    }

    /** "at least one alarm in the next n days". */
    private static void lostUntilTheLastDay() {
        for (int needed = 1; needed <= 7; needed++) {
            CountWatch x = Due.watching("Wc5000" + needed + "005.");
            for (int n = 1; n <= 6; n++) {
                lost(x, 51, n, 0, n >= needed ? 1 : 0, 1);
            }
        }
        // All six days without a gap, or with at most one, or two: binomial sums over 2 to the power of 6
        int[][] due = {{1, 64}, {7, 64}, {11, 32}, {21, 32}, {57, 64}, {63, 64}};
        for (int i = 0; i < 6; i++) {
            CountWatch x = Due.watching("Wc5000" + (6 - i) + "005.");
            lost(x, 51, 6, 5, due[i][0], due[i][1]);
        }
        // One alarm may be followed by others, but it is one event.
        CountWatch x = Due.watching("Wc50002015.");
        lost(x, 52, 2, 5, 3, 4);
        // Expectations 50 and 59, 0.3 of all days are gaps: 60 rings on even days; on odd ones up is 1.
        x = Due.watching("Wc500100059.");
        lost(x, 60, 1, 3, 7, 10);
        lost(x, 60, 2, 3, 7, 10);
        lost(x, 60, 3, 3, 91, 100);
        x.gap(0);
        lost(x, 60, 1, 3, 0, 1);
        lost(x, 60, 2, 3, 7, 10);
        Due.due("the day stays", x.series(0, 5), 1);
    }

    // ---- simulations

    private static void seedAtItsEnds() {
        CountWatch x = new CountWatch();
        Due.due("the seed at first", x.seed(Long.MAX_VALUE), 0);
        Due.due("seed(MIN)", x.seed(Long.MIN_VALUE), Long.MAX_VALUE);
        Due.due("seed(-1)", x.seed(-1), Long.MIN_VALUE);
        Due.due("seed(0)", x.seed(0), -1);
        Due.due("seed(0) again", x.seed(0), 0);
    }

    private static BigInteger next(BigInteger seed) {
        return seed.multiply(new BigInteger("6364136223846793005")).add(new BigInteger("1442695040888963407"))
                .mod(BigInteger.ONE.shiftLeft(64));
    }

    private static BigInteger unsigned(long v) {
        return BigInteger.valueOf(v).mod(BigInteger.ONE.shiftLeft(64));
    }

    /** "the number of counts, 1 to 20"; "(0 without series)"; "with overflow". */
    private static void drawnAtItsEnds() {
        for (long start : new long[] {0, 1, -1, Long.MIN_VALUE, Long.MAX_VALUE, 1L << 32, -99}) {
            for (int m = 1; m <= 20; m++) {
                BigInteger seed = unsigned(start);
                for (int i = 0; i < m; i++) {
                    seed = next(seed);
                }
                CountWatch none = new CountWatch();
                none.seed(start);
                Due.due("drawn(" + m + ") without series", none.drawn(m), 0);
                Due.due("the seed after it", none.seed(0), seed.longValue());
                // No count is as high as the expectation of 90.
                CountWatch x = Due.watching("Wc90001005.c90001005.");
                x.seed(start);
                Due.due("drawn(" + m + ") with an alarm each", x.drawn(m), m);
                Due.due("the seed after it", x.seed(5), seed.longValue());
                Due.due("no alarm stays", x.count(2), 0);
                Due.due("drawn(0)", x.drawn(0), OUTSIDE);
                Due.due("drawn(21)", x.drawn(21), OUTSIDE);
                Due.due("drawn(-1)", x.drawn(-1), OUTSIDE);
                Due.due("the seed after refusals", x.seed(0), 5);
            }
        }
    }

    /** "the upper 31 bits of the new seed"; "w modulo 40"; "(w / 64, rounded down) modulo the number of series". */
    private static void drawnBits() {
        int negative = 0;
        int[] hit = new int[5];
        for (long start = 1; start <= 60; start++) {
            BigInteger seed = next(unsigned(start * 0x123456789ABCDEFL));
            int w = seed.shiftRight(33).intValueExact();
            negative += seed.longValue() < 0 ? 1 : 0;
            int n = 1 + (int) (start % 5);
            int series = w / 64 % n;
            hit[series]++;
            StringBuilder quiet = new StringBuilder("W");
            StringBuilder other = new StringBuilder("W");
            for (int s = 0; s < n; s++) {
                // Any other count than w modulo 40 is an alarm; for the other series there is none.
                String base = s == series ? String.format("%02d", w % 40) : "90";
                quiet.append('c').append(base).append("001005.");
                other.append("c90").append(s == series ? "099005." : "001005.");
            }
            CountWatch x = Due.watching(quiet.toString());
            x.seed(start * 0x123456789ABCDEFL);
            Due.due("the count from " + start, x.drawn(1), 0);
            x = Due.watching(other.toString());
            x.seed(start * 0x123456789ABCDEFL);
            Due.due("the series from " + start, x.drawn(1), 0);
        }
        for (int n = 1; n <= 5; n++) {
            CountWatch x = Due.watching("W" + "c90001005.".repeat(n));
            Due.due("drawn(20) of " + n + " series", x.drawn(20), 20);
        }
        Due.due("some seeds are negative, some not", negative > 9 && negative < 51 ? 1 : 0, 1);
        for (int s = 0; s < 5; s++) {
            Due.due("series " + s + " is drawn", hit[s] > 0 ? 1 : 0, 1);
        }
    }

    // ---- slots and counts

    /** "the slot, 0 or 1"; "STATE if it keeps nothing"; "No act can be undone then." */
    private static void slotsAtTheirEnds() {
        CountWatch x = Due.watching("Wc50001005.c50001005.");
        for (int slot : new int[] {-1, 2, Integer.MAX_VALUE, Integer.MIN_VALUE}) {
            Due.due("keep(" + slot + ")", x.keep(slot), UNKNOWN);
            Due.due("again(" + slot + ")", x.again(slot), UNKNOWN);
        }
        for (int slot = 0; slot < 2; slot++) {
            Due.due("again(" + slot + ") of nothing", x.again(slot), STATE);
            x.tell(0, 51);
            Due.due("keep(" + slot + ")", x.keep(slot), slot + 1);
            Due.due("acts stay", x.count(4), slot + 1);
        }
        x.tell(1, 51);
        x.tell(1, 51);
        Due.due("alarms", x.count(2), 4);
        Due.due("again(0)", x.again(0), 1);
        Due.due("no act", x.count(4), 0);
        Due.due("undo()", x.undo(), STATE);
        Due.due("again(1)", x.again(1), 2);
        Due.due("again(1) again", x.again(1), 2);
        Due.due("again(0) again", x.again(0), 1);
        Due.due("day", x.series(0, 5), 1);
    }

    /** A slot keeps the chances too, and may keep no series at all. */
    private static void slotsWithoutSeries() {
        CountWatch x = new CountWatch();
        Due.due("keep(0) without series", x.keep(0), 0);
        Due.due("chances(19)", x.chances(19), 2620);
        Due.due("again(1) of nothing", x.again(1), STATE);
        Due.due("the act stays", x.count(4), 1);
        Due.due("keep(1) without series", x.keep(1), 0);
        Due.due("again(0)", x.again(0), 0);
        Due.due("chances", x.count(3), 2620);
        Due.due("no act", x.undo(), STATE);
        Due.due("again(1)", x.again(1), 0);
        Due.due("chances", x.count(3), 19);
        Due.append(x, "W");
        x.watch();
        Due.due("again(1) after watch()", x.again(1), STATE);
        Due.due("again(0) after watch()", x.again(0), STATE);
        Due.due("chances stay", x.count(3), 19);
    }

    /** "Makes all series and the chances as they are kept"; "The slot keeps them." */
    private static void slotsAreApart() {
        CountWatch x = Due.watching("Wc50399115.");
        x.keep(0);
        Due.tellAll(x, 0, 53, 60, 47);
        x.chances(91);
        x.set(0, 2, 4);
        x.keep(1);
        x.again(0);
        Due.due("day at first", x.series(0, 5), 0);
        Due.due("past at first", x.past(0, 0), UNKNOWN);
        Due.due("level at first", x.series(0, 11), 800);
        Due.due("rate at first", x.series(0, 3), 1);
        Due.due("chances at first", x.count(3), 2620);
        // What is done then leaves both slots as they are, undone or not.
        Due.tellAll(x, 0, 1, 2, 3);
        x.undo();
        x.again(1);
        Due.due("day", x.series(0, 5), 3);
        Due.due("past", x.past(0, 1), 60);
        Due.due("level", x.series(0, 11), 824);
        Due.due("rate", x.series(0, 3), 4);
        Due.due("chances", x.count(3), 91);
        x.clear(0);
        x.undo();
        x.keep(0);
        x.gap(0);
        x.again(0);
        Due.due("kept in place of what was kept", x.series(0, 5), 3);
        Due.due("rate", x.series(0, 3), 4);
    }

    /** "0 for the length of the text, .. 5 for the number of observations"; "OUTSIDE if what is not 0 to 5". */
    private static void countAtItsEnds() {
        CountWatch x = new CountWatch();
        int[] first = {0, 0, 0, 2620, 0, 0};
        counts(x, "at first", first);
        Due.append(x, "Wc50001005.c50001005.c50001005.c50001005.c50001005.");
        x.watch();
        Due.append(x, "c".repeat(29));
        for (int i = 0; i < 30; i++) {
            x.tell(i % 5, 51);
        }
        x.chances(91000);
        for (int i = 0; i < 7; i++) {
            x.see(4, 1, 1, 1);
        }
        Due.due("write() to a full text", x.write(1), FULL);
        int[] last = {80, 5, 30, 91000, 14, 6};
        counts(x, "at most", last);
    }

    private static void counts(CountWatch x, String when, int[] due) {
        for (int what = 0; what < due.length; what++) {
            Due.due(when + ": count(" + what + ")", x.count(what), due[what]);
        }
        for (int what : new int[] {-1, 6, Integer.MAX_VALUE, Integer.MIN_VALUE}) {
            Due.due(when + ": count(" + what + ")", x.count(what), OUTSIDE);
        }
    }
}
