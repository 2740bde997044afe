import java.util.function.ToIntFunction;

/** The edges that the description and the promises 1 to 13 name; each group quotes the sentence that it holds to. */
public final class StateEdgesTest {
    private static final int UNKNOWN = CountWatch.UNKNOWN, OUTSIDE = CountWatch.OUTSIDE, STATE = CountWatch.STATE,
            FULL = CountWatch.FULL, NONE = CountWatch.NONE;
    private static final String SHORT = "c00001000.";
    private static final String LONG = "c999994199999.";

    public static void main(String[] args) {
        everyByteOfASeries();
        numberOfSeries();
        lengthOfTheText();
        parametersAtTheirEnds();
        stateAtFirst();
        lengthsOfTheSeason();
        latestTwelveThings();
        expectationAtItsEnds();
        sumsNotBelowZero();
        sumsAtTheBound();
        alarmOnDayZero();
        restartAtHalfTheBound();
        levelOnlyWithoutSums();
        levelAtItsEnds();
        levelIsShifted();
        chancesAtTheirEnds();
        latestFourteenActs();
        everyActIsUndone();
        noActs();
        readingForgets();
        countsAtTheirEnds();
        parametersOutOfReach();
        lastCalls();
        Due.end("StateEdgesTest");
    }

    // ---- the text

    private static boolean digit(int letter, char low, char high) {
        return letter >= low && letter <= high;
    }

    /** Whether a byte may stand at a place of a series, whose bound begins with 0. */
    private static boolean mayFollow(int place, int letter) {
        if (place == 0) {
            return letter == 'c';
        }
        if (place == 5) {
            return digit(letter, '1', '9');
        }
        if (place == 6) {
            return digit(letter, '0', '4');
        }
        if (place == 7) {
            return digit(letter, '0', '1');
        }
        if (place == 13) {
            return letter == '.';
        }
        return digit(letter, '0', '9') || place > 8 && letter == '.';
    }

    /** "The fault of a text is the place of the first byte with which the text cannot be the beginning .." */
    private static void everyByteOfASeries() {
        String series = "c051014112345.";
        for (String front : new String[] {"W", "W" + SHORT, "W" + LONG.repeat(2), "W" + LONG.repeat(4)}) {
            for (int place = 0; place < series.length(); place++) {
                for (int letter = 0; letter < 256; letter++) {
                    everyByte(front + series.substring(0, place), letter, mayFollow(place, letter));
                }
            }
        }
        for (int letter = 0; letter < 256; letter++) {
            CountWatch x = new CountWatch();
            x.write(letter);
            Due.due("fault() of byte " + letter, x.fault(), letter == 'W' ? NONE : 0);
        }
        for (char first = '0'; first <= '9'; first++) {
            for (int letter = 0; letter < 256; letter++) {
                CountWatch x = Due.written("Wc051" + first);
                x.write(letter);
                // 00 is no bound.
                boolean fits = digit(letter, first == '0' ? '1' : '0', '9');
                Due.due("fault() of bound " + first + " and byte " + letter, x.fault(), fits ? 7 : 6);
            }
        }
    }

    private static void everyByte(String text, int letter, boolean fits) {
        CountWatch x = Due.written(text);
        x.write(letter);
        int due = !fits ? text.length() : letter == '.' ? NONE : text.length() + 1;
        Due.due("fault() of " + text + " and byte " + letter, x.fault(), due);
        Due.due("watch() of " + text + " and byte " + letter, x.watch() < 0 ? 1 : 0, due == NONE ? 0 : 1);
    }

    /** "There are at most 5 series"; "also the c of a sixth series"; "0 to 5 series". */
    private static void numberOfSeries() {
        for (String series : new String[] {SHORT, LONG}) {
            for (int n = 0; n <= 5; n++) {
                CountWatch x = Due.written("W" + series.repeat(n));
                Due.due("fault() of " + n + " series", x.fault(), NONE);
                Due.due("watch() of " + n + " series", x.watch(), n);
                Due.due("count(1) of " + n + " series", x.count(1), n);
                Due.due("the last of " + n + " series", x.series(n - 1, 5), n == 0 ? UNKNOWN : 0);
                Due.due("behind " + n + " series", x.series(n, 5), UNKNOWN);
            }
            String five = "W" + series.repeat(5);
            for (int letter = 0; letter < 256; letter++) {
                CountWatch x = Due.written(five);
                x.write(letter);
                Due.due("fault() of five series and byte " + letter, x.fault(), five.length());
                Due.due("watch() of five series and byte " + letter, x.watch(), STATE);
            }
        }
    }

    /** "a buffer of at most 80 bytes"; "FULL if the text has 80 bytes"; "Returns the length that it had". */
    private static void lengthOfTheText() {
        CountWatch x = Due.written("W" + LONG.repeat(5));
        Due.due("the longest text of a watch", x.count(0), 71);
        Due.append(x, "c12345678");
        Due.due("80 bytes", x.count(0), 80);
        Due.due("the 81st byte", x.write('9'), FULL);
        Due.due("the fault of 80 bytes", x.fault(), 71);
        Due.due("wipe() of 80 bytes", x.wipe(), 80);
        Due.due("wipe() of none", x.wipe(), 0);
        Due.due("fault() of none", x.fault(), 0);
        Due.due("the first byte after wipe()", x.write('W'), 1);
        for (int n = 2; n <= 79; n++) {
            x.write(0);
        }
        Due.due("79 bytes", x.count(0), 79);
        Due.due("the 80th byte", x.write(0), 80);
        Due.due("the 81st byte", x.write(0), FULL);
        Due.due("write(-1)", x.write(-1), OUTSIDE);
        Due.due("write(256)", x.write(256), OUTSIDE);
        x.wipe();
        Due.due("write(255)", x.write(255), 1);
        Due.due("write(0)", x.write(0), 2);
        Due.due("fault()", x.fault(), 0);
        // A text that is wiped is no longer read, but the series are.
        Due.rewrite(x, "W" + SHORT);
        x.watch();
        Due.due("wipe() of a read text", x.wipe(), 11);
        Due.due("the series stay", x.series(0, 2), 1);
        Due.due("watch() of an empty text", x.watch(), STATE);
        Due.due("the series stay", x.count(1), 1);
    }

    // ---- series

    private static void parameters(String series, int... due) {
        CountWatch x = Due.watching("W" + series);
        for (int what = 0; what < due.length; what++) {
            Due.due(series + ": series(0, " + what + ")", x.series(0, what), due[what]);
        }
    }

    /** "a base from 0 to 99, a slack from 0 to 9, a bound from 1 to 99, a rate from 0 to 4, a restart flag". */
    private static void parametersAtTheirEnds() {
        parameters("c00001000.", 0, 0, 1, 0, 0);
        parameters("c99999419.", 99, 9, 99, 4, 1);
        parameters("c09010019.", 9, 0, 10, 0, 1);
        parameters("c90909305.", 90, 9, 9, 3, 0);
        parameters("c10199205.", 10, 1, 99, 2, 0);
    }

    /** "a day, at first 0; two sums .. 0; .. alarms .. 0; .. none; a level, at first 16 * base; .. past .. empty". */
    private static void stateAtFirst() {
        for (int base : new int[] {0, 1, 50, 99}) {
            CountWatch x = Due.watching("Wc" + base / 10 + base % 10 + "599006.");
            int[] due = {0, 0, 0, 0, 0, NONE, 16 * base, base + 101, 0};
            for (int what = 5; what <= 13; what++) {
                Due.due("base " + base + ": series(0, " + what + ")", x.series(0, what), due[what - 5]);
            }
            Due.due("base " + base + ": past(0, 0)", x.past(0, 0), UNKNOWN);
        }
    }

    /** "the digit of the season with the index day modulo the length of the season"; 1 to 5 digits. */
    private static void lengthsOfTheSeason() {
        String digits = "90527";
        for (int length = 1; length <= 5; length++) {
            CountWatch x = Due.watching("Wc1099900" + digits.substring(0, length) + ".");
            for (int day = 0; day <= 26; day++) {
                int f = digits.charAt(day % length) - '0';
                Due.due("season of " + length + ", day " + day, x.series(0, 12), 100 + 10 + f - 5);
                Due.due("gap of day " + day, x.gap(0), day + 1);
            }
        }
        // A shorter season in place of a longer one leaves nothing of it.
        CountWatch x = Due.watching("Wc109990099999.");
        Due.rewrite(x, "Wc1099900123.");
        x.watch();
        for (int day = 0; day < 9; day++) {
            Due.due("shorter season, day " + day, x.series(0, 12), 105 + 1 + day % 3);
            x.gap(0);
        }
    }

    /** "the latest 12 things .. the oldest one first"; "UNKNOWN if .. no such .. place"; "NONE if it is a gap". */
    private static void latestTwelveThings() {
        CountWatch x = Due.watching("Wc50999005.");
        Due.due("an empty past", x.past(0, 0), UNKNOWN);
        for (int day = 0; day < 30; day++) {
            if (day % 5 == 3) {
                x.gap(0);
            } else {
                x.tell(0, 40 + day % 20);
            }
            int size = Math.min(12, day + 1);
            Due.due("things after day " + day, x.series(0, 13), size);
            Due.due("behind them", x.past(0, size), UNKNOWN);
            Due.due("before them", x.past(0, -1), UNKNOWN);
            Due.due("the latest", x.past(0, size - 1), day % 5 == 3 ? NONE : 40 + day % 20);
            int oldest = day + 1 - size;
            Due.due("the oldest", x.past(0, 0), oldest % 5 == 3 ? NONE : 40 + oldest % 20);
        }
        x = Due.watching("Wc50999005.");
        x.tell(0, 0);
        x.tell(0, 99);
        x.gap(0);
        Due.due("0 is a count", x.past(0, 0), 0);
        Due.due("99 is a count", x.past(0, 1), 99);
        Due.due("a gap is none", x.past(0, 2), NONE);
    }

    /** "(level >> 4) + f - 5"; what 12 is "the expectation plus 100". */
    private static void expectationAtItsEnds() {
        Due.due("lowest", Due.watching("Wc00001000.").series(0, 12), 95);
        Due.due("highest", Due.watching("Wc99001009.").series(0, 12), 203);
        // A level of 95 (see below) is 5 whole ones.
        CountWatch x = Due.watching("Wc05999105.");
        Due.tellAll(x, 0, 6, 6, 6, 6, 6);
        Due.due("level", x.series(0, 11), 95);
        Due.due("rounded down", x.series(0, 12), 105);
        // Below 0 a count of 0 is above expectation: e is -5.
        x = Due.watching("Wc00099000.");
        x.tell(0, 0);
        Due.due("up from below 0", x.series(0, 6), 5);
        Due.due("down from below 0", x.series(0, 7), 0);
        // Above 99 every count is below it: e is 103.
        x = Due.watching("Wc99099009.");
        x.tell(0, 99);
        Due.due("down from above 99", x.series(0, 7), 4);
    }

    // ---- counting

    private static void sums(String when, CountWatch x, int up, int down) {
        Due.due(when + ": up", x.series(0, 6), up);
        Due.due(when + ": down", x.series(0, 7), down);
    }

    /** "up becomes max(0, up + v - e - slack), and down becomes max(0, down + e - v - slack)". */
    private static void sumsNotBelowZero() {
        CountWatch x = Due.watching("Wc50399005.");
        x.tell(0, 53);
        sums("as far above as the slack", x, 0, 0);
        x.tell(0, 54);
        sums("one more", x, 1, 0);
        x.tell(0, 52);
        sums("one back, to 0", x, 0, 0);
        x.tell(0, 47);
        sums("as far below as the slack", x, 0, 0);
        x.tell(0, 46);
        sums("one more below", x, 0, 1);
        x.tell(0, 48);
        sums("one back, to 0", x, 0, 0);
        x.tell(0, 54);
        x.tell(0, 51);
        sums("two back from 1", x, 0, 0);
        x.tell(0, 54);
        x.tell(0, 53);
        sums("none back", x, 1, 0);
    }

    private static void kind(String series, int v, int due) {
        CountWatch x = Due.watching("W" + series);
        Due.due(series + ": tell(0, " + v + ")", x.tell(0, v), due);
        Due.due(series + ": alarms", x.series(0, 8), due > 0 ? 1 : 0);
        Due.due(series + ": kind", x.series(0, 9), due);
        Due.due(series + ": day of the alarm", x.series(0, 10), due > 0 ? 0 : NONE);
    }

    /** "If up or down is at least the bound, there is an alarm .. its kind is 1 .., 2 .., 3". */
    private static void sumsAtTheBound() {
        kind("c50010005.", 59, 0);
        kind("c50010005.", 60, 1);
        kind("c50010005.", 61, 1);
        kind("c50010005.", 41, 0);
        kind("c50010005.", 40, 2);
        kind("c50010005.", 39, 2);
        kind("c50910005.", 68, 0);
        kind("c50910005.", 69, 1);
        kind("c00099005.", 98, 0);
        kind("c00099005.", 99, 1);
        kind("c99099005.", 1, 0);
        kind("c99099005.", 0, 2);
        kind("c50001005.", 50, 0);
        kind("c50001005.", 51, 1);
        kind("c50001005.", 49, 2);
        for (int bound = 1; bound <= 4; bound++) {
            both(2, bound, bound <= 2 ? 3 : bound == 3 ? 1 : 0);
            both(3, bound, bound <= 2 ? 3 : bound == 3 ? 2 : 0);
        }
    }

    /** Without slack, a count of 5 above and then one below leave both sums above 0, and one as expected keeps them. */
    private static void both(int below, int bound, int due) {
        CountWatch x = Due.watching("Wc50099005.");
        x.tell(0, 55);
        x.tell(0, 50 - below);
        x.set(0, 1, bound);
        sums("both above 0", x, 5 - below, below);
        x.gap(0);
        sums("a gap is no count", x, 5 - below, below);
        Due.due("as expected, up " + (5 - below) + ", down " + below + ", bound " + bound, x.tell(0, 50), due);
        Due.due("its kind", x.series(0, 9), due);
        sums("after it", x, due > 0 ? 0 : 5 - below, due > 0 ? 0 : below);
        x.undo();
        x.set(0, 3, 1);
        x.tell(0, 50);
        int half = bound / 2;
        sums("restarted", x, due == 0 ? 5 - below : due == 2 ? 0 : half, due == 0 ? below : due == 1 ? 0 : half);
    }

    /** "its day is the present day"; "for what 10 NONE if there was no alarm". */
    private static void alarmOnDayZero() {
        CountWatch x = Due.watching("Wc05001005.");
        Due.due("no alarm", x.series(0, 10), NONE);
        x.tell(0, 5);
        Due.due("no alarm yet", x.series(0, 10), NONE);
        x.undo();
        x.tell(0, 6);
        Due.due("an alarm on day 0", x.series(0, 10), 0);
        x.gap(0);
        x.tell(0, 5);
        Due.due("it stays", x.series(0, 10), 0);
        x.tell(0, 4);
        Due.due("an alarm on day 3", x.series(0, 10), 3);
        Due.due("its kind", x.series(0, 9), 2);
        Due.due("alarms", x.series(0, 8), 2);
        x.undo();
        Due.due("undone", x.series(0, 10), 0);
        Due.due("its kind", x.series(0, 9), 1);
    }

    /** "if the restart flag is 1, each of the two that was at least the bound becomes bound / 2, rounded down". */
    private static void restartAtHalfTheBound() {
        for (int bound = 1; bound <= 99; bound++) {
            String front = "Wc500" + bound / 10 + bound % 10 + "0";
            CountWatch x = Due.watching(front + "15.");
            // 45 a count: three of them reach any bound.
            int counts = (bound + 44) / 45;
            for (int n = 1; n <= counts; n++) {
                Due.due("bound " + bound + ", count " + n, x.tell(0, 95), n == counts ? 1 : 0);
            }
            sums("restart above " + bound, x, bound / 2, 0);
            x.clear(0);
            for (int n = 1; n <= counts; n++) {
                Due.due("bound " + bound + ", count " + n + " below", x.tell(0, 5), n == counts ? 2 : 0);
            }
            sums("restart below " + bound, x, 0, bound / 2);
            x = Due.watching(front + "05.");
            for (int n = 1; n <= counts; n++) {
                x.tell(0, 95);
            }
            sums("no restart " + bound, x, 0, 0);
        }
    }

    private static void level(String when, CountWatch x, int due) {
        Due.due("level " + when, x.series(0, 11), due);
    }

    /** "If there is no alarm, the rate is above 0, and up and down are both 0, the level becomes ..". */
    private static void levelOnlyWithoutSums() {
        CountWatch x = Due.watching("Wc50399105.");
        x.tell(0, 54);
        level("with up at 1", x, 800);
        x.tell(0, 52);
        // up is 0 again: (16 * 52 - 800) >> 1
        level("with up at 0", x, 816);
        x = Due.watching("Wc50399105.");
        x.tell(0, 46);
        level("with down at 1", x, 800);
        x.tell(0, 48);
        level("with down at 0", x, 784);
        x = Due.watching("Wc50399005.");
        x.tell(0, 52);
        level("with rate 0", x, 800);
        x.set(0, 2, 1);
        level("when the rate is set", x, 800);
        x.tell(0, 52);
        level("with rate 1", x, 816);
        x = Due.watching("Wc50301105.");
        x.tell(0, 54);
        level("with an alarm that leaves no sum", x, 800);
        x.tell(0, 46);
        level("with an alarm below", x, 800);
        x.gap(0);
        level("with a gap", x, 800);
        x.tell(0, 53);
        level("with no alarm", x, 824);
        x.clear(0);
        level("with clear()", x, 824);
    }

    /** "but at least 0 and at most 1584". */
    private static void levelAtItsEnds() {
        // 16 * (99 - f + 5) with f = 5 is 1584 itself; halfway from 1584 it stays.
        CountWatch x = Due.watching("Wc99999105.");
        x.tell(0, 99);
        level("at 1584", x, 1584);
        x = Due.watching("Wc99999104.");
        // 1600: halfway is 1592
        x.tell(0, 99);
        level("above 1584", x, 1584);
        x = Due.watching("Wc99999404.");
        // 16 >> 4: 1585
        x.tell(0, 99);
        level("one above 1584", x, 1584);
        x = Due.watching("Wc99999406.");
        // 1568: one down
        x.tell(0, 99);
        level("one below 1584", x, 1583);
        x = Due.watching("Wc00999105.");
        x.tell(0, 0);
        level("at 0", x, 0);
        x = Due.watching("Wc00999406.");
        // -16 >> 4: -1
        x.tell(0, 0);
        level("one below 0", x, 0);
        x = Due.watching("Wc00999109.");
        x.tell(0, 0);
        level("far below 0", x, 0);
        x = Due.watching("Wc00999404.");
        x.tell(0, 0);
        level("one above 0", x, 1);
        Due.due("an expectation below 0 with a level of 1", x.series(0, 12), 99);
    }

    /** "(16 * (v - f + 5) - level) >> rate"; ">> is the arithmetic shift of Java". */
    private static void levelIsShifted() {
        int[] shifted = {0, 72, 36, 18, 9};
        for (int rate = 0; rate <= 4; rate++) {
            // f is 7, so that 52 is expected; 9 above or below is no more than the slack.
            CountWatch x = Due.watching("Wc50999" + rate + "07.");
            x.tell(0, 61);
            level("9 above, rate " + rate, x, 800 + shifted[rate]);
            x = Due.watching("Wc50999" + rate + "07.");
            x.tell(0, 43);
            level("9 below, rate " + rate, x, 800 - shifted[rate]);
        }
        CountWatch x = Due.watching("Wc50999405.");
        x.tell(0, 49);
        level("-16 >> 4", x, 799);
        x.tell(0, 49);
        level("-15 >> 4", x, 798);
        x.tell(0, 50);
        level("2 >> 4", x, 798);
        x.set(0, 2, 1);
        x.tell(0, 50);
        level("2 >> 1", x, 799);
        x.tell(0, 50);
        level("1 >> 1", x, 799);
    }

    // ---- chances and acts

    /** "five chances, digits whose sum is 10 .. (with leading zeros); at first 02620". */
    private static void chancesAtTheirEnds() {
        CountWatch x = new CountWatch();
        Due.due("at first", x.count(3), 2620);
        Due.due("chances(18)", x.chances(18), OUTSIDE);
        Due.due("the lowest", x.chances(19), 2620);
        Due.due("the highest", x.chances(91000), 19);
        Due.due("chances(91001)", x.chances(91001), OUTSIDE);
        Due.due("chances(90999)", x.chances(90999), OUTSIDE);
        Due.due("the highest below", x.chances(90100), 91000);
        Due.due("six digits of sum 10", x.chances(100009), OUTSIDE);
        Due.due("six digits of sum 10", x.chances(100900), OUTSIDE);
        Due.due("a negative number of sum 10", x.chances(-19), OUTSIDE);
        Due.due("the same once more", x.chances(90100), 90100);
        Due.due("acts", x.count(4), 4);
        everyNumberOfChances();
    }

    private static void everyNumberOfChances() {
        int valid = 0;
        CountWatch x = new CountWatch();
        for (int w = 0; w <= 100100; w++) {
            int sum = 0;
            for (int rest = w; rest > 0; rest /= 10) {
                sum += rest % 10;
            }
            boolean fits = sum == 10 && w <= 99999;
            if (w % 200 == 0) {
                x = new CountWatch();
            }
            int got = x.chances(w);
            if (got != (fits ? 2620 : OUTSIDE) || fits && (x.count(3) != w || x.undo() != 0)) {
                Due.due("chances(" + w + ") is as it should be", got, fits ? 2620 : OUTSIDE);
            }
            valid += fits ? 1 : 0;
        }
        Due.due("numbers of digit sum 10", valid, 996);
    }

    /** "The latest 14 acts can be undone"; "STATE if there is none". */
    private static void latestFourteenActs() {
        CountWatch x = Due.watching("Wc50999005.");
        for (int n = 1; n <= 33; n++) {
            x.gap(0);
            Due.due("acts after " + n, x.count(4), Math.min(14, n));
        }
        for (int left = 13; left >= 9; left--) {
            Due.due("undo to " + left, x.undo(), left);
        }
        // Day 28; nine acts are left, four more make 13, five more 14, six more 14.
        for (int n = 1; n <= 6; n++) {
            Due.due("day of gap " + n, x.gap(0), 28 + n);
            Due.due("acts after " + n + " more", x.count(4), Math.min(14, 9 + n));
        }
        for (int left = 13; left >= 0; left--) {
            Due.due("undo to " + left, x.undo(), left);
            Due.due("day with " + left + " left", x.series(0, 5), 20 + left);
        }
        Due.due("undo the fifteenth", x.undo(), STATE);
        Due.due("the day stays", x.series(0, 5), 20);
        Due.due("no act left", x.count(4), 0);
        Due.due("a new act", x.gap(0), 21);
        Due.due("undone", x.undo(), 0);
        Due.due("no more", x.undo(), STATE);
    }

    /** Two series with full pasts, sums and alarms, and more acts behind them than can be undone. */
    private static CountWatch lived() {
        CountWatch x = Due.watching("Wc05104115.c10302013.");
        Due.tellAll(x, 0, 8, 99, 6);
        Due.tellAll(x, 1, 8, 12);
        x.gap(1);
        Due.tellAll(x, 1, 2, 0, 1, 2, 3, 4, 5, 6, 7);
        return x;
    }

    /** "The successful calls of tell(), gap(), clear(), set() and chances() are acts"; "undoing restores all". */
    private static void everyActIsUndone() {
        undone("tell with an alarm, that removes the oldest thing", 1, x -> x.tell(1, 99));
        undone("tell that moves the level", 0, x -> x.tell(0, 4));
        undone("gap that removes the oldest thing", 13, x -> x.gap(1));
        undone("clear", 2, x -> x.clear(0));
        undone("set of the slack", 1, x -> x.set(0, 0, 9));
        undone("set of the bound", 4, x -> x.set(0, 1, 99));
        undone("set of the rate", 1, x -> x.set(0, 2, 0));
        undone("set of the restart flag", 1, x -> x.set(0, 3, 0));
        undone("set to what it was", 3, x -> x.set(1, 0, 3));
        undone("chances", 2620, x -> x.chances(19));
    }

    private static int[] look(CountWatch x) {
        int[] found = new int[54];
        for (int i = 0; i < 28; i++) {
            found[i] = x.series(i / 14, i % 14);
        }
        for (int i = 0; i < 26; i++) {
            found[28 + i] = x.past(i / 13, i % 13);
        }
        return found;
    }

    private static void undone(String act, int due, ToIntFunction<CountWatch> made) {
        CountWatch x = lived();
        int[] before = look(x);
        Due.due("acts before " + act, x.count(4), 14);
        Due.due(act, made.applyAsInt(x), due);
        Due.due("acts after " + act, x.count(4), 14);
        Due.due(act + ": undo()", x.undo(), 13);
        int[] after = look(x);
        for (int i = 0; i < before.length; i++) {
            Due.due(act + " undone, answer " + i, after[i], before[i]);
        }
        Due.due(act + " undone: chances", x.count(3), 2620);
        Due.due(act + ": the act before, undone", x.undo(), 12);
        Due.due(act + ": its day", x.series(1, 5), 11);
    }

    /** Nothing else is an act. */
    private static void noActs() {
        CountWatch x = Due.watching("Wc05104115.");
        x.write(1);
        x.wipe();
        x.fault();
        x.see(0, 1, 1, 1);
        x.which();
        x.unsee();
        x.seed(1);
        x.drawn(1);
        x.keep(0);
        x.tell(0, 100);
        x.tell(1, 0);
        x.gap(1);
        x.clear(1);
        x.set(0, 0, 10);
        x.chances(20000);
        Due.due("no acts", x.count(4), 0);
        Due.due("undo()", x.undo(), STATE);
        Due.due("clear(0) of no sums", x.clear(0), 0);
        Due.due("set(0, 1, 4) to the same", x.set(0, 1, 4), 4);
        Due.due("chances(2620) to the same", x.chances(2620), 2620);
        Due.due("acts that change nothing", x.count(4), 3);
        x = new CountWatch();
        Due.due("chances() without series", x.chances(55), 2620);
        Due.due("an act without series", x.count(4), 1);
        Due.due("undone", x.undo(), 0);
        Due.due("chances without series", x.count(3), 2620);
    }

    /** "No act can be undone, and the slots keep nothing; the chances, the observations and the seed stay." */
    private static void readingForgets() {
        CountWatch x = Due.watching("Wc50360105.c50360105.");
        x.chances(55);
        x.see(1, 1, 1, 1);
        x.seed(Long.MIN_VALUE);
        x.keep(0);
        x.keep(1);
        Due.tellAll(x, 0, 52, 99, 99, 40);
        Due.tellAll(x, 1, 48, 0, 0, 60);
        Due.due("down of before", x.series(0, 7), 8);
        Due.due("up of before", x.series(1, 6), 8);
        Due.due("alarms of before", x.count(2), 2);
        Due.due("the same text once more", x.watch(), 2);
        Due.due("acts", x.count(4), 0);
        Due.due("undo()", x.undo(), STATE);
        Due.due("again(0)", x.again(0), STATE);
        Due.due("again(1)", x.again(1), STATE);
        Due.due("chances", x.count(3), 55);
        Due.due("observations", x.count(5), 1);
        Due.due("seed", x.seed(0), Long.MIN_VALUE);
        Due.due("text", x.count(0), 21);
        Due.due("alarms", x.count(2), 0);
        int[] fresh = {50, 3, 60, 1, 0, 0, 0, 0, 0, 0, NONE, 800, 150, 0};
        for (int i = 0; i < 28; i++) {
            Due.due("fresh: series(" + i / 14 + ", " + i % 14 + ")", x.series(i / 14, i % 14), fresh[i % 14]);
        }
        Due.due("fresh: past(0, 0)", x.past(0, 0), UNKNOWN);
        x.keep(1);
        Due.due("a slot kept after reading", x.again(1), 0);
        Due.due("and no other", x.again(0), STATE);
        Due.due("series of before are gone", Due.watching("W").series(0, 0), UNKNOWN);
        Due.rewrite(x, "W");
        Due.due("watch() of no series", x.watch(), 0);
        Due.due("no series", x.series(0, 0), UNKNOWN);
        Due.due("chances", x.count(3), 55);
        Due.due("observations", x.count(5), 1);
        Due.due("slot", x.again(1), STATE);
    }

    // ---- values too small and too large

    private static void countsAtTheirEnds() {
        CountWatch x = Due.watching("Wc50999005.");
        Due.due("tell(0, 0)", x.tell(0, 0), 0);
        Due.due("tell(0, 99)", x.tell(0, 99), 0);
        Due.due("tell(0, -1)", x.tell(0, -1), OUTSIDE);
        Due.due("tell(0, 100)", x.tell(0, 100), OUTSIDE);
        sums("after refused counts", x, 40, 0);
        Due.due("day", x.series(0, 5), 2);
        Due.due("clear(0)", x.clear(0), 40);
        Due.due("clear(0) again", x.clear(0), 0);
        CountWatch both = Due.watching("Wc50099005.");
        both.tell(0, 60);
        both.tell(0, 47);
        Due.due("clear(0) of up 7 and down 3", both.clear(0), 10);
        sums("cleared", both, 0, 0);
        both.tell(0, 1);
        Due.due("clear(0) of down", both.clear(0), 49);
        Due.due("series(0, 0)", x.series(0, 0), 50);
        Due.due("series(0, 13)", x.series(0, 13), 2);
        Due.due("series(0, -1)", x.series(0, -1), OUTSIDE);
        Due.due("series(0, 14)", x.series(0, 14), OUTSIDE);
    }

    /** "Changes a parameter of a series; nothing else changes". */
    private static void setAlone(int what, int v) {
        CountWatch x = Due.watching("Wc50155215.c50155215.");
        for (int s = 0; s < 2; s++) {
            Due.tellAll(x, s, 50, 99, 99, 54, 52);
        }
        int[] before = new int[28];
        for (int i = 0; i < before.length; i++) {
            before[i] = x.series(i / 14, i % 14);
        }
        x.set(1, what, v);
        for (int i = 0; i < before.length; i++) {
            Due.due("set(1, " + what + ", " + v + "): series(" + i / 14 + ", " + i % 14 + ")", x.series(i / 14, i % 14),
                    i == 15 + what ? v : before[i]);
        }
        for (int place = 0; place < 5; place++) {
            Due.due("past(1, " + place + ")", x.past(1, place), x.past(0, place));
        }
        Due.due("chances", x.count(3), 2620);
    }

    /** "0 to 9, 1 to 99, 0 to 4, or 0 to 1"; "(up and down may be at least the bound until the next count)". */
    private static void parametersOutOfReach() {
        int[] low = {0, 1, 0, 0};
        int[] high = {9, 99, 4, 1};
        for (int what = 0; what < 4; what++) {
            CountWatch x = Due.watching("Wc50550105.");
            for (int v = low[what]; v <= high[what]; v++) {
                int before = x.series(0, what + 1);
                Due.due("set(0, " + what + ", " + v + ")", x.set(0, what, v), before);
                Due.due("then", x.series(0, what + 1), v);
            }
            Due.due("set(0, " + what + "), too small", x.set(0, what, low[what] - 1), OUTSIDE);
            Due.due("set(0, " + what + "), too large", x.set(0, what, high[what] + 1), OUTSIDE);
            Due.due("it stays", x.series(0, what + 1), high[what]);
            setAlone(what, low[what]);
            setAlone(what, high[what]);
        }
        CountWatch x = Due.watching("Wc50099015.c50099005.");
        x.tell(0, 90);
        x.set(0, 1, 1);
        sums("far above the bound", x, 40, 0);
        Due.due("no alarm", x.series(0, 8), 0);
        Due.due("first in the ranking", x.ranked(0), 0);
        x.gap(0);
        sums("a gap is no count", x, 40, 0);
        Due.due("the other series has none of it", x.tell(1, 50), 0);
        Due.due("a count of the expectation", x.tell(0, 50), 1);
        sums("half of 1", x, 0, 0);
        x.undo();
        Due.due("a count that leads below", x.tell(0, 10), 2);
        sums("half of 1 below", x, 0, 0);
        x.undo();
        x.set(0, 1, 99);
        Due.due("the bound is high again", x.tell(0, 50), 0);
        sums("no alarm", x, 40, 0);
    }

    /** "An object is used for at most 512 calls after it has been made": the last of them is answered like the first. */
    private static void lastCalls() {
        CountWatch x = Due.watching("Wc50001005.");
        for (int call = 13; call <= 505; call++) {
            Due.due("call " + call, x.tell(0, 49 + 2 * (call % 2)), 1 + (call + 1) % 2);
        }
        Due.due("call 506", x.count(2), 493);
        Due.due("call 507", x.series(0, 5), 493);
        Due.due("call 508", x.series(0, 10), 492);
        Due.due("call 509", x.past(0, 11), 51);
        Due.due("call 510", x.undo(), 13);
        Due.due("call 511", x.series(0, 8), 492);
        // Day 480, call 493
        Due.due("call 512", x.past(0, 0), 51);
    }
}
