/**
 * All promises at the end of an object's 512 calls, against PlainTown: where THE TEXT, GATES, PERSONS and all
 * that can be UNDONE, KEPT, SEEN and HEARD are full at once; where a second town is laid on such a one; where
 * acts alone have gone on for 512 calls. The same runs each time.
 */
public final class WholeRunsTest {
    private static final int RUNS = 40;
    private static final String[] ACTS = {"ask", "ask", "ask", "ask", "talk", "listen"};
    /** Nothing here empties what is full, but undo and back, which what is done and kept outweighs. */
    private static final String[] NAMES = {
        "write", "fault", "lay", "gate", "person", "far", "ask", "ask", "ask", "talk", "talk", "listen", "undo",
        "opens", "best", "middle", "lessons", "apart", "crosses", "seen", "kinds", "ears", "heard", "from", "nearest",
        "likely", "year", "keep", "keep", "back", "count",
    };

    private final Due due = new Due("WholeRunsTest");
    private final SideBySide both = new SideBySide(due, 20261119L);

    public static void main(String[] args) {
        WholeRunsTest test = new WholeRunsTest();
        for (int run = 0; run < RUNS; run++) {
            test.fullToTheEnd(run);
            test.laidAnewAtTheEnd(run);
            test.actsToTheEnd(run);
        }
        test.due.end();
    }

    private void call(String name) {
        both.both(name, 0, 0, 0, 0);
    }

    private void counts(int least) {
        for (int what = least; what < 10; what++) {
            both.both("count", what, 0, 0, 0);
        }
    }

    /** Until so many calls are left. */
    private void draw(String[] names, int left) {
        while (both.left() > left) {
            both.one(names[both.below(names.length)]);
        }
    }

    private void full() {
        both.lay(both.town(5, 6));
        while (both.both("count", 9, 0, 0, 0) < SideBySide.MOST_LETTERS) {
            both.write("~~~~");
        }
        for (int i = 0; i < 9; i++) {
            both.both("seen", both.below(6), both.below(5), both.below(2), 0);
            both.both("heard", both.below(5), both.below(6), 0, 0);
        }
        fullAgain();
    }

    /** What undo and back have emptied. */
    private void fullAgain() {
        for (int i = 0; i < 3; i++) {
            call("keep");
        }
        for (int i = 0; i < 9; i++) {
            both.both("ask", both.below(6), both.below(5), 0, 0);
        }
        int[] most = {5, 6, 0, 0, 0, 6, 8, 8, 2, 200};
        for (int what = 0; what < 10; what++) {
            int got = both.both("count", what, 0, 0, 0);
            if (most[what] > 0) {
                due.is("count(" + what + ") of what is full", got, most[what]);
            }
        }
    }

    private void witnesses() {
        for (int g = 0; g < 5; g++) {
            both.both("kinds", g, 0, 0, 0);
            both.both("ears", g, 0, 0, 0);
            both.both("ears", g, 1, 0, 0);
        }
        call("from");
        both.both("nearest", 0, 0, 0, 0);
        both.both("nearest", 1, 0, 0, 0);
    }

    /** Each that can be, and one more; then once more as often back. */
    private void emptied() {
        for (int i = 0; i < 9; i++) {
            call("undo");
            both.both("person", i % 6, i % 5, 0, 0);
        }
        for (int i = 0; i < 3; i++) {
            call("back");
            both.both("person", i, 5, 0, 0);
            both.both("gate", i, i, 0, 0);
        }
    }

    private void fullToTheEnd(int run) {
        both.begin("full run " + run);
        full();
        draw(NAMES, 110);
        fullAgain();
        witnesses();
        call("fault");
        call("lay");
        both.write("~");
        call("keep");
        emptied();
        call("forget");
        counts(5);
        call("wipe");
        draw(NAMES, 0);
    }

    private void laidAnewAtTheEnd(int run) {
        both.begin("run laid anew " + run);
        full();
        draw(NAMES, 180);
        fullAgain();
        both.lay(both.town(1 + both.below(5), 1 + both.below(6)));
        counts(0);
        call("undo");
        call("back");
        witnesses();
        draw(NAMES, 0);
    }

    private void actsToTheEnd(int run) {
        both.begin("run of acts " + run);
        if (run % 2 == 0) {
            both.lay(both.town(5, 6));
        }
        draw(ACTS, 60);
        counts(0);
        for (int p = 0; p < 4; p++) {
            both.both("opens", p, 0, 0, 0);
            both.both("lessons", p, p, 0, 0);
            both.both("year", 17 * run, 60, p % 3, 0);
        }
        emptied();
        counts(0);
        draw(NAMES, 0);
    }
}
