/** Promises 1 to 5: a new object, the text, and reading a watch. */
public final class TextTest {
    private static final String LONGEST_SERIES = "c999994112345.";

    public static void main(String[] args) {
        newObject();
        writing();
        wiping();
        faults();
        reading();
        readingAgain();
        Due.end("TextTest");
    }

    private static void newObject() {
        CountWatch x = new CountWatch();
        int[] counts = {0, 0, 0, 2620, 0, 0};
        for (int what = 0; what < counts.length; what++) {
            Due.due("new: count(" + what + ")", x.count(what), counts[what]);
        }
        Due.due("new: fault()", x.fault(), 0);
        Due.due("new: watch()", x.watch(), CountWatch.STATE);
        Due.due("new: undo()", x.undo(), CountWatch.STATE);
        Due.due("new: again(0)", x.again(0), CountWatch.STATE);
        Due.due("new: again(1)", x.again(1), CountWatch.STATE);
        Due.due("new: ranked(0)", x.ranked(0), CountWatch.UNKNOWN);
        Due.due("new: series(0, 0)", x.series(0, 0), CountWatch.UNKNOWN);
        Due.due("new: which()", x.which(), -1);
        Due.due("new: seed(7)", x.seed(7), 0);
        Due.due("UNKNOWN", CountWatch.UNKNOWN, -1);
        Due.due("OUTSIDE", CountWatch.OUTSIDE, -2);
        Due.due("STATE", CountWatch.STATE, -3);
        Due.due("FULL", CountWatch.FULL, -4);
        Due.due("NONE", CountWatch.NONE, -9);
    }

    private static void writing() {
        CountWatch x = new CountWatch();
        Due.due("write(-1)", x.write(-1), CountWatch.OUTSIDE);
        Due.due("write(256)", x.write(256), CountWatch.OUTSIDE);
        Due.due("write(MIN)", x.write(Integer.MIN_VALUE), CountWatch.OUTSIDE);
        Due.due("length after errors", x.count(0), 0);
        Due.due("write(0)", x.write(0), 1);
        Due.due("write(255)", x.write(255), 2);
        for (int i = 3; i <= 80; i++) {
            Due.due("write no. " + i, x.write(87), i);
        }
        Due.due("write no. 81", x.write(87), CountWatch.FULL);
        Due.due("write(256) to a full text", x.write(256), CountWatch.OUTSIDE);
        Due.due("length of a full text", x.count(0), 80);
    }

    private static void wiping() {
        CountWatch x = Due.written("Wc05");
        Due.due("wipe()", x.wipe(), 4);
        Due.due("wipe() again", x.wipe(), 0);
        Due.due("count(0)", x.count(0), 0);
        Due.due("fault() when wiped", x.fault(), 0);
        Due.due("write(87) when wiped", x.write(87), 1);
        Due.due("fault() of W", x.fault(), CountWatch.NONE);
    }

    private static void fault(String text, int want) {
        Due.due("fault() of " + text, Due.written(text).fault(), want);
    }

    private static void faults() {
        String whole = "Wc05104105.";
        for (int i = 1; i < whole.length(); i++) {
            fault(whole.substring(0, i), i == 1 ? CountWatch.NONE : i);
            fault(whole.substring(0, i) + "x", i);
            fault(whole.substring(0, i) + " 1", i);
        }
        fault(whole, CountWatch.NONE);
        fault("", 0);
        fault("w", 0);
        fault("c", 0);
        fault("WW", 1);
        fault("W.", 1);
        fault("Wc0510000", 6);
        fault("Wc051010", 8);
        fault("Wc051100", 8);
        fault("Wc051015", 7);
        fault("Wc0510145", 8);
        fault("Wc0510142", 8);
        fault("Wc051014/", 8);
        fault("Wc0510141.", 9);
        fault("Wc05101411.", CountWatch.NONE);
        fault("Wc051014112345", 14);
        fault("Wc051014112345.", CountWatch.NONE);
        fault("Wc0510141123456", 14);
        fault("Wc05101411000", 13);
        fault("Wc05101419999.", CountWatch.NONE);
        fault("Wc05101410000.", CountWatch.NONE);
        fault("Wc05101411:", 10);
        fault("Wc05101411/", 10);
        fault("Wc05101411.W", 11);
        fault("Wc05101411.c", 12);
        String five = "W" + LONGEST_SERIES.repeat(5);
        Due.due("length of the longest watch", five.length(), 71);
        fault(five, CountWatch.NONE);
        fault(five + "c", 71);
        fault(five + ".", 71);
        fault(five + "123456789", 71);
        fault(five.substring(0, 70), 70);
        fault("W" + (char) 255, 1);
        fault("W" + (char) 0, 1);
        fault("Wc" + (char) 176, 2);
    }

    private static void reading() {
        CountWatch x = Due.written("Wc05104105." + LONGEST_SERIES);
        Due.due("watch()", x.watch(), 2);
        Due.due("count(0) after watch()", x.count(0), 25);
        int[] first = {5, 1, 4, 1, 0, 0, 0, 0, 0, 0, CountWatch.NONE, 80, 105, 0};
        // The expectation is 99 + 1 - 5.
        int[] second = {99, 9, 99, 4, 1, 0, 0, 0, 0, 0, CountWatch.NONE, 1584, 195, 0};
        for (int what = 0; what < first.length; what++) {
            Due.due("read: series(0, " + what + ")", x.series(0, what), first[what]);
            Due.due("read: series(1, " + what + ")", x.series(1, what), second[what]);
        }
        Due.due("read: series(2, 0)", x.series(2, 0), CountWatch.UNKNOWN);
        Due.due("watch() of five", Due.written("W" + LONGEST_SERIES.repeat(5)).watch(), 5);
        Due.due("watch() of none", Due.written("W").watch(), 0);
        Due.due("watch() of an incomplete text", Due.written("Wc0510410").watch(), CountWatch.STATE);
        Due.due("watch() of a wrong text", Due.written("Wc05104105.x").watch(), CountWatch.STATE);
    }

    private static void readingAgain() {
        CountWatch x = Due.watching("Wc05104005.c10010005.");
        x.seed(77);
        x.chances(55);
        x.tell(0, 9);
        x.tell(1, 9);
        x.see(1, 1, 1, 1);
        x.keep(0);
        x.keep(1);
        Due.append(x, "!");
        Due.due("watch() with a fault", x.watch(), CountWatch.STATE);
        Due.due("the series stay", x.series(0, 6), 3);
        Due.due("the acts stay", x.count(4), 3);
        Due.due("the slots stay", x.keep(0), 0);
        Due.rewrite(x, "Wc07104005.");
        Due.due("watch()", x.watch(), 1);
        Due.due("new base", x.series(0, 0), 7);
        Due.due("new day", x.series(0, 5), 0);
        Due.due("new up", x.series(0, 6), 0);
        Due.due("new past", x.past(0, 0), CountWatch.UNKNOWN);
        Due.due("series 1 is gone", x.series(1, 0), CountWatch.UNKNOWN);
        Due.due("undo()", x.undo(), CountWatch.STATE);
        Due.due("again(0)", x.again(0), CountWatch.STATE);
        Due.due("again(1)", x.again(1), CountWatch.STATE);
        Due.due("chances stay", x.count(3), 55);
        Due.due("observations stay", x.count(5), 1);
        Due.due("the text stays", x.count(0), 11);
        Due.due("the seed stays", x.seed(0), 77);
        readingOnceMore(x);
    }

    /** Nothing of the state is left. */
    private static void readingOnceMore(CountWatch x) {
        Due.rewrite(x, "Wc07104105.");
        x.watch();
        int[] fresh = new int[14];
        for (int what = 0; what < fresh.length; what++) {
            fresh[what] = x.series(0, what);
        }
        Due.tellAll(x, 0, 7, 9, 99, 0, 5);
        Due.due("an alarm of before", x.series(0, 8), 2);
        Due.due("a sum of before", x.series(0, 7), 1);
        Due.due("watch() once more", x.watch(), 1);
        for (int what = 0; what < fresh.length; what++) {
            Due.due("fresh: series(0, " + what + ")", x.series(0, what), fresh[what]);
        }
        x.tell(0, 10);
        x.watch();
        Due.due("up is fresh", x.series(0, 6), 0);
    }
}
