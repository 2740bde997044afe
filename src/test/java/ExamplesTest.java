/** The four examples at the end of the document's description, and the one of README.md. */
public final class ExamplesTest {
    public static void main(String[] args) {
        aboveExpectation();
        alarmThatRestarts();
        incompleteText();
        withoutSeries();
        ofTheReadme();
        Due.end("ExamplesTest");
    }

    private static CountWatch written(int... letters) {
        CountWatch x = new CountWatch();
        for (int i = 0; i < letters.length; i++) {
            Due.due("write(" + letters[i] + ")", x.write(letters[i]), i + 1);
        }
        return x;
    }

    private static void aboveExpectation() {
        CountWatch x = written(87, 99, 48, 53, 49, 48, 52, 49, 48, 53, 46);
        Due.due("watch()", x.watch(), 1);
        Due.due("tell(0, 9)", x.tell(0, 9), 0);
        Due.due("rings(0, 9)", x.rings(0, 9), 1);
        Due.due("length(0, true)", x.length(0, true), -9);
        Due.due("would(0, 1, 3)", x.would(0, 1, 3), 0);
    }

    private static void alarmThatRestarts() {
        CountWatch x = written(87, 99, 49, 48, 48, 48, 51, 48, 49, 55, 46);
        Due.due("watch()", x.watch(), 1);
        Due.due("tell(0, 15)", x.tell(0, 15), 1);
        Due.due("series(0, 6)", x.series(0, 6), 1);
        Due.due("undo()", x.undo(), 0);
        Due.due("which()", x.which(), -1);
    }

    private static void incompleteText() {
        CountWatch x = written(87, 99, 48, 48, 48, 48, 49, 48, 48, 48);
        Due.due("fault()", x.fault(), 10);
        Due.due("watch()", x.watch(), -3);
        Due.due("ranked(0)", x.ranked(0), -1);
        Due.due("chances(11111)", x.chances(11111), -2);
        Due.due("chances(55)", x.chances(55), 2620);
        Due.due("undo()", x.undo(), 0);
    }

    private static void withoutSeries() {
        CountWatch x = written(87);
        Due.due("watch()", x.watch(), 0);
        Due.due("fault()", x.fault(), -9);
        Due.due("write(99)", x.write(99), 2);
        Due.due("fault()", x.fault(), 2);
        Due.due("drawn(3)", x.drawn(3), 0);
        Due.due("gap(0)", x.gap(0), -1);
        Due.due("undo()", x.undo(), -3);
        Due.due("keep(1)", x.keep(1), 0);
        Due.due("again(0)", x.again(0), -3);
        Due.due("judge(1, 1000)", x.judge(1, 1000L), 0);
        Due.due("which()", x.which(), -1);
        Due.due("see(0, 0, 0, 0)", x.see(0, 0, 0, 0), -1);
        Due.due("count(3)", x.count(3), 2620);
        Due.due("chances(20000)", x.chances(20000), -2);
        Due.due("share(0, 1, true)", x.share(0, 1, true), -1);
    }

    private static void ofTheReadme() {
        CountWatch x = Due.written("Wc05104105.");
        Due.due("watch()", x.watch(), 1);
        Due.due("tell(0, 9)", x.tell(0, 9), 0);
        Due.due("series(0, 6)", x.series(0, 6), 3);
        Due.due("rings(0, 9)", x.rings(0, 9), 1);
        Due.fraction("lost(0, 9, 2, 5)", x.lost(0, 9, 2, 5, true), x.lost(0, 9, 2, 5, false), 3, 4);
        Due.due("tell(0, 9) again", x.tell(0, 9), 1);
        Due.due("undo()", x.undo(), 1);
        Due.due("tell(0, 100)", x.tell(0, 100), -2);
    }
}
