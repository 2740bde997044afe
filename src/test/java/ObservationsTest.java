/** Promises 21 to 23: observations and the numbers that agree with them. */
public final class ObservationsTest {
    private static final int UNKNOWN = CountWatch.UNKNOWN, OUTSIDE = CountWatch.OUTSIDE, FULL = CountWatch.FULL;
    // Base 5, slack 1, bound 4, rate 0, no restart: the expectation is 5.
    private static final String PLAIN = "c05104005.";

    public static void main(String[] args) {
        seeing();
        unseeing();
        which();
        whichOfNow();
        whichWithoutSeries();
        Due.end("ObservationsTest");
    }

    private static void seeing() {
        CountWatch x = Due.watching("W" + PLAIN);
        int[][] wrong = {{-1, 0, 0}, {10, 0, 0}, {0, -1, 0}, {0, 10, 0}, {0, 0, -1}, {0, 0, 2}};
        for (int[] w : wrong) {
            String of = w[0] + ", " + w[1] + ", " + w[2] + ")";
            Due.due("see(0, " + of, x.see(0, w[0], w[1], w[2]), OUTSIDE);
            Due.due("see(1, " + of, x.see(1, w[0], w[1], w[2]), UNKNOWN);
        }
        Due.due("see(-1, 0, 0, 0)", x.see(-1, 0, 0, 0), UNKNOWN);
        Due.due("none yet", x.count(5), 0);
        for (int i = 1; i <= 6; i++) {
            Due.due("see no. " + i, x.see(0, 9, 9, i % 2), i);
        }
        Due.due("see no. 7", x.see(0, 0, 0, 0), FULL);
        Due.due("see no. 7, wrong", x.see(0, 0, 0, 2), OUTSIDE);
        Due.due("see no. 7, no series", x.see(1, 0, 0, 2), UNKNOWN);
        Due.due("six", x.count(5), 6);
        Due.due("no acts", x.count(4), 0);
        Due.due("both said to be so and not to be so", x.which(), 0);
    }

    private static void unseeing() {
        CountWatch x = Due.watching("W" + PLAIN);
        Due.due("unsee() of none", x.unsee(), 0);
        x.see(0, 0, 1, 1);
        x.see(0, 0, 0, 0);
        Due.due("none agrees", x.which(), 0);
        Due.due("unsee()", x.unsee(), 2);
        Due.due("unsee() again", x.unsee(), 0);
        Due.due("all agree", x.which(), -1);
        Due.due("see after unsee()", x.see(0, 1, 1, 1), 1);
    }

    private static int bits(int low, int high) {
        int bits = 0;
        for (int v = low; v <= high; v++) {
            bits |= 1 << v;
        }
        return bits;
    }

    private static void which() {
        CountWatch x = Due.watching("W" + PLAIN + "c05104015.c20104005.");
        Due.due("no observation", x.which(), -1);
        x.see(0, 1, 1, 1);
        // an alarm at once: 0, and 10 or more
        Due.due("one alarm in one", x.which(), bits(0, 0) | bits(10, 31));
        x.see(2, 1, 0, 1);
        // expectation 20: 16 to 24 are no alarm
        Due.due("the same number for two series", x.which(), bits(16, 24));
        x.see(2, 2, 0, 0);
        Due.due("and an alarm in two", x.which(), bits(16, 17) | bits(23, 24));
        x.unsee();
        x.see(0, 2, 1, 1);
        // 3 above or below in each: 1, 2, 8, 9 (and 10: 4, then 4 again are two alarms)
        Due.due("one alarm in two", x.which(), bits(2, 2) | bits(1, 1) | bits(8, 9));
        x.unsee();
        x.see(0, 9, 9, 1);
        Due.due("nine alarms in nine", x.which(), bits(0, 0) | bits(10, 31));
        x.unsee();
        x.see(1, 2, 1, 0);
        // restarting at 2: 9 gives 3, then 6: an alarm; 8 gives 2, then 4: one; 7: 1, 2: none; 3, 2 and 1 alike
        Due.due("not one alarm in two", x.which(), bits(0, 0) | bits(3, 7) | bits(10, 31));
        x.unsee();
        x.see(0, 0, 0, 1);
        Due.due("none in none", x.which(), -1);
    }

    private static void whichOfNow() {
        CountWatch x = Due.watching("W" + PLAIN);
        x.see(0, 1, 1, 1);
        x.tell(0, 8);
        // up is 2: 8 and more, and 0
        Due.due("from now on", x.which(), bits(0, 0) | bits(8, 31));
        x.tell(0, 99);
        Due.due("more alarms than now", x.which(), bits(0, 0) | bits(10, 31));
        x.undo();
        Due.due("now after undo()", x.which(), bits(0, 0) | bits(8, 31));
        x.set(0, 1, 99);
        Due.due("the bound of now", x.which(), 0);
    }

    private static void whichWithoutSeries() {
        CountWatch x = Due.watching("W" + PLAIN + PLAIN);
        x.see(1, 1, 1, 1);
        x.see(0, 1, 1, 1);
        Due.rewrite(x, "W" + PLAIN);
        x.watch();
        Due.due("observations stay", x.count(5), 2);
        Due.due("that of series 1 is ignored", x.which(), bits(0, 0) | bits(10, 31));
        Due.rewrite(x, "W");
        x.watch();
        Due.due("all are ignored", x.which(), -1);
        Due.due("no more for series 0", x.see(0, 1, 1, 1), UNKNOWN);
        Due.rewrite(x, "W" + PLAIN + "c20104005.");
        x.watch();
        // with expectation 20: not 16 to 24
        Due.due("none is ignored any more", x.which(), bits(0, 0) | bits(10, 15) | bits(25, 31));
    }
}
