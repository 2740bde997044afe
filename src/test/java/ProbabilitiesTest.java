/** Promises 24 to 30: probabilities, simulations, slots and counts. */
public final class ProbabilitiesTest {
    private static final int UNKNOWN = CountWatch.UNKNOWN, OUTSIDE = CountWatch.OUTSIDE, STATE = CountWatch.STATE;
    // Base 5, slack 1, bound 4, rate 0, no restart: the expectation is 5.
    private static final String PLAIN = "c05104005.";
    private static final long FIRST_DRAWN = 1442695040888963407L;

    public static void main(String[] args) {
        share();
        shareOfFive();
        wrongShares();
        lost();
        lostInASeason();
        wrongLosses();
        seed();
        drawn();
        drawnCounts();
        keeping();
        keepingAll();
        counting();
        Due.end("ProbabilitiesTest");
    }

    private static void share(CountWatch x, int series, int q, int above, int below) {
        Due.fraction("share(" + series + ", " + q + ")", x.share(series, q, true), x.share(series, q, false), above,
                below);
    }

    private static void share() {
        CountWatch x = Due.watching("Wc05099005.c05099005.c05099005.");
        x.tell(0, 8);
        x.tell(1, 7);
        x.tell(2, 6);
        // up is 3, 2, 1
        share(x, 0, 4, 2, 3);
        share(x, 1, 4, 1, 6);
        share(x, 2, 4, 1, 6);
        share(x, 0, 1, 1, 3);
        share(x, 1, 1, 1, 3);
        share(x, 0, 6, 1, 3);
        share(x, 2, 6, 1, 3);
        share(x, 0, 3, 2, 3);
        share(x, 0, 7, 0, 1);
        share(x, 0, 99, 0, 1);
        x.clear(2);
        share(x, 2, 1, 0, 1);
        share(x, 0, 1, 1, 2);
        CountWatch one = Due.watching("W" + PLAIN);
        share(one, 0, 1, 0, 1);
        one.tell(0, 8);
        share(one, 0, 2, 1, 1);
        share(one, 0, 3, 0, 1);
        one.tell(0, 0);
        // down does not count
        share(one, 0, 1, 0, 1);
    }

    private static void shareOfFive() {
        String row = "c05099005.";
        CountWatch x = Due.watching("W" + row.repeat(5));
        for (int i = 0; i < 5; i++) {
            x.tell(i, 6);
        }
        for (int q = 1; q <= 5; q++) {
            share(x, 4, q, 1, 5);
        }
        share(x, 4, 6, 0, 1);
        x.tell(0, 7);
        // up 3, 1, 1, 1, 1; quorum 4: the first is decisive behind 1 to 3 others
        share(x, 0, 4, 3, 5);
        share(x, 1, 4, 1, 10);
    }

    private static void wrongShares() {
        CountWatch x = Due.watching("W" + PLAIN);
        Due.due("share(0, 0, true)", x.share(0, 0, true), OUTSIDE);
        Due.due("share(0, 100, false)", x.share(0, 100, false), OUTSIDE);
        Due.due("share(0, -1, false)", x.share(0, -1, false), OUTSIDE);
        Due.due("share(1, 0, true)", x.share(1, 0, true), UNKNOWN);
        Due.due("share(-1, 1, false)", x.share(-1, 1, false), UNKNOWN);
    }

    private static void lost(CountWatch x, int v, int n, int tenths, int above, int below) {
        Due.fraction("lost(0, " + v + ", " + n + ", " + tenths + ")", x.lost(0, v, n, tenths, true),
                x.lost(0, v, n, tenths, false), above, below);
    }

    private static void lost() {
        CountWatch x = Due.watching("W" + PLAIN);
        // 9 needs two counts
        lost(x, 9, 1, 0, 0, 1);
        lost(x, 9, 2, 5, 1, 4);
        lost(x, 9, 3, 3, 98, 125);
        lost(x, 9, 2, 0, 1, 1);
        lost(x, 9, 6, 10, 0, 1);
        // 10 needs one: 1 - 0.9^n
        lost(x, 10, 1, 9, 1, 10);
        lost(x, 10, 6, 9, 468559, 1000000);
        lost(x, 0, 2, 9, 19, 100);
        lost(x, 5, 6, 0, 0, 1);
        x.tell(0, 9);
        lost(x, 9, 1, 5, 1, 2);
        x.tell(0, 9);
        // the alarm that was does not count
        lost(x, 9, 1, 5, 0, 1);
    }

    private static void lostInASeason() {
        // Expectations 5 and 9, bound 4: 9 is an alarm on even days only.
        CountWatch x = Due.watching("Wc050040059.");
        lost(x, 9, 1, 5, 1, 2);
        lost(x, 9, 2, 5, 1, 2);
        lost(x, 9, 3, 5, 3, 4);
        x.gap(0);
        lost(x, 9, 1, 5, 0, 1);
        lost(x, 9, 2, 1, 9, 10);
    }

    private static void wrongLosses() {
        CountWatch x = Due.watching("W" + PLAIN);
        int[][] wrong = {{-1, 1, 0}, {100, 1, 0}, {0, 0, 0}, {0, 7, 0}, {0, 1, -1}, {0, 1, 11}};
        for (int[] w : wrong) {
            String of = w[0] + ", " + w[1] + ", " + w[2] + ")";
            Due.due("lost(0, " + of, x.lost(0, w[0], w[1], w[2], true), OUTSIDE);
            Due.due("lost(1, " + of, x.lost(1, w[0], w[1], w[2], false), UNKNOWN);
        }
        Due.due("lost(-1, 0, 1, 0)", x.lost(-1, 0, 1, 0, true), UNKNOWN);
    }

    private static void seed() {
        CountWatch x = new CountWatch();
        Due.due("seed(MIN)", x.seed(Long.MIN_VALUE), 0);
        Due.due("seed(-1)", x.seed(-1), Long.MIN_VALUE);
        Due.due("seed(0)", x.seed(0), -1);
        Due.due("no act", x.count(4), 0);
    }

    private static void drawn() {
        CountWatch x = new CountWatch();
        Due.due("drawn(0)", x.drawn(0), OUTSIDE);
        Due.due("drawn(21)", x.drawn(21), OUTSIDE);
        Due.due("drawn(-1)", x.drawn(-1), OUTSIDE);
        Due.due("the seed stays", x.seed(0), 0);
        Due.due("drawn(1) without series", x.drawn(1), 0);
        Due.due("the seed goes on", x.seed(0), FIRST_DRAWN);
        x.drawn(3);
        Due.due("three times", x.seed(3), -7280499659394350823L);
        x.drawn(20);
        Due.due("twenty times", x.seed(2), -3895920778555627017L);
        x.drawn(1);
        Due.due("overflow", x.seed(0), -4275776585127002199L);
    }

    private static void drawnCounts() {
        // From seed 0, w modulo 40 is 7, 24, 17; of three series they go to 2, 1, 2; of two all go to 0.
        CountWatch x = Due.watching("Wc05099005.c24001005.c07001005.");
        Due.due("first: as expected", x.drawn(1), 0);
        x.seed(0);
        Due.due("second: as expected", x.drawn(2), 0);
        x.seed(0);
        Due.due("third: an alarm", x.drawn(3), 1);
        Due.due("the alarm is not in the series", x.count(2), 0);
        Due.due("nor is the day", x.series(2, 5), 0);
        Due.due("the seed is changed", x.seed(0), -7280499659394350823L);
        Due.due("no act", x.count(4), 0);
        // 7 - 5, then 24 - 5: 21 together; and 12 more
        x = Due.watching("Wc05021005.c05001005.");
        Due.due("the counts follow one another", x.drawn(2), 1);
        x.seed(0);
        Due.due("without the alarm that was", x.drawn(3), 1);
        x = Due.watching("Wc05022005.c05001005.");
        Due.due("one below the bound", x.drawn(2), 0);
        x.seed(0);
        Due.due("then above", x.drawn(3), 1);
        // no count is as high as 40
        x = Due.watching("Wc90001005.");
        Due.due("an alarm each time", x.drawn(20), 20);
        Due.due("again", x.drawn(20), 20);
    }

    private static void keeping() {
        CountWatch x = Due.watching("W" + PLAIN + PLAIN);
        Due.due("keep(-1)", x.keep(-1), UNKNOWN);
        Due.due("keep(2)", x.keep(2), UNKNOWN);
        Due.due("again(-1)", x.again(-1), UNKNOWN);
        Due.due("again(2)", x.again(2), UNKNOWN);
        Due.due("again(0) of nothing", x.again(0), STATE);
        x.tell(0, 99);
        x.tell(1, 99);
        x.tell(1, 0);
        Due.due("keep(0)", x.keep(0), 3);
        Due.due("keep is no act", x.count(4), 3);
        Due.due("again(1) of nothing", x.again(1), STATE);
        Due.due("acts after an error", x.count(4), 3);
        x.tell(1, 9);
        x.chances(91);
        x.set(0, 1, 9);
        Due.due("keep(1)", x.keep(1), 3);
        x.tell(0, 99);
        Due.due("count(2)", x.count(2), 4);
        Due.due("again(0)", x.again(0), 3);
        Due.due("up", x.series(1, 6), 0);
        Due.due("bound", x.series(0, 2), 4);
        Due.due("chances", x.count(3), 2620);
        Due.due("day", x.series(1, 5), 2);
        Due.due("no act can be undone", x.undo(), STATE);
        Due.due("again(1)", x.again(1), 3);
        Due.due("up", x.series(1, 6), 3);
        Due.due("bound", x.series(0, 2), 9);
        Due.due("chances", x.count(3), 91);
        x.gap(0);
        Due.due("an act", x.count(4), 1);
        Due.due("the slot keeps them", x.again(0), 3);
        Due.due("the slot keeps them unchanged", x.again(1), 3);
        Due.due("day", x.series(0, 5), 1);
    }

    private static void keepingAll() {
        CountWatch x = Due.watching("Wc05104105.");
        Due.tellAll(x, 0, 5, 7, 6, 99);
        x.gap(0);
        x.keep(0);
        int[] before = new int[14];
        for (int what = 0; what < before.length; what++) {
            before[what] = x.series(0, what);
        }
        for (int i = 0; i < 15; i++) {
            x.tell(0, 2 * i);
        }
        x.set(0, 0, 3);
        x.set(0, 2, 0);
        x.set(0, 3, 1);
        x.see(0, 1, 1, 1);
        x.seed(9);
        x.write(1);
        x.again(0);
        for (int what = 0; what < before.length; what++) {
            Due.due("again: series(0, " + what + ")", x.series(0, what), before[what]);
        }
        int[] past = {5, 7, 6, 99, CountWatch.NONE, UNKNOWN};
        for (int place = 0; place < past.length; place++) {
            Due.due("again: past(0, " + place + ")", x.past(0, place), past[place]);
        }
        Due.due("observations stay", x.count(5), 1);
        Due.due("the seed stays", x.seed(0), 9);
        Due.due("the text stays", x.count(0), 12);
        x.keep(0);
        x.tell(0, 99);
        Due.due("kept in place of what was kept", x.keep(0), 2);
        Due.due("so it is", x.again(0), 2);
    }

    private static void counting() {
        CountWatch x = Due.watching("W" + PLAIN + PLAIN + PLAIN);
        x.tell(0, 99);
        x.tell(2, 99);
        x.tell(2, 0);
        x.chances(91);
        x.see(0, 1, 1, 1);
        x.see(2, 1, 1, 1);
        int[] due = {31, 3, 3, 91, 4, 2};
        for (int what = 0; what < due.length; what++) {
            Due.due("count(" + what + ")", x.count(what), due[what]);
        }
        for (int what : new int[] {-1, 6, Integer.MIN_VALUE, Integer.MAX_VALUE}) {
            Due.due("count(" + what + ")", x.count(what), OUTSIDE);
        }
    }
}
