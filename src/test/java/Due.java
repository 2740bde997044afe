/** What all tests use: answers are compared with what is due. */
final class Due {
    private static int wrong = 0;
    private static int checked = 0;

    // A call that fails to end is a failure too; without this it would be told by nobody.
    private static final int MOST_SECONDS = 300;

    static {
        Thread watchdog = new Thread(Due::failWhenTooLate);
        watchdog.setDaemon(true);
        watchdog.start();
    }

    private Due() {
    }

    private static void failWhenTooLate() {
        try {
            Thread.sleep(1000L * MOST_SECONDS);
        } catch (InterruptedException e) {
            return;
        }
        System.out.println("no end after " + MOST_SECONDS + " seconds");
        Runtime.getRuntime().halt(1);
    }

    static void due(String call, long got, long want) {
        checked++;
        if (got != want) {
            wrong++;
            System.out.println(call + " answered " + got + ", due is " + want);
        }
    }

    static void fraction(String call, long above, long below, long wantAbove, long wantBelow) {
        due(call + ", numerator", above, wantAbove);
        due(call + ", denominator", below, wantBelow);
    }

    /** A new object whose text is empty but for these letters. */
    static CountWatch written(String text) {
        CountWatch x = new CountWatch();
        append(x, text);
        return x;
    }

    static void append(CountWatch x, String text) {
        for (int i = 0; i < text.length(); i++) {
            x.write(text.charAt(i));
        }
    }

    static void rewrite(CountWatch x, String text) {
        x.wipe();
        append(x, text);
    }

    /** A new object that has read this text. */
    static CountWatch watching(String text) {
        CountWatch x = written(text);
        if (x.watch() < 0) {
            wrong++;
            System.out.println("the text " + text + " was not read");
        }
        return x;
    }

    static void tellAll(CountWatch x, int series, int... counts) {
        for (int v : counts) {
            x.tell(series, v);
        }
    }

    /** Ends the program, with exit code 1 if an answer was not as due. */
    static void end(String test) {
        System.out.println(test + ": " + checked + " answers, " + wrong + " wrong");
        if (wrong != 0 || checked == 0) {
            System.exit(1);
        }
    }
}
