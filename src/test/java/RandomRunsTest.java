/** All promises: runs of drawn calls, the class against PlainTown. The same runs each time. */
public final class RandomRunsTest {
    private static final int RUNS = 600;
    /** What all() may take at the end: so many calls are kept for it. */
    private static final int MOST_AT_THE_END = 280;
    private static final int CALLS = 150;
    private static final String[] NAMES = {
        "wipe", "fault", "lay", "gate", "person", "far", "ask", "ask", "ask", "ask", "talk", "talk", "talk",
        "listen", "listen", "undo", "opens", "best", "middle", "lessons", "lessons", "apart", "crosses", "crosses",
        "seen", "seen", "kinds", "ears", "heard", "heard", "from", "nearest", "forget", "likely", "year",
        "keep", "back", "count", "count",
    };

    private final Due due = new Due("RandomRunsTest");
    private final SideBySide both = new SideBySide(due, 20261118L);

    public static void main(String[] args) {
        RandomRunsTest test = new RandomRunsTest();
        for (int run = 0; run < RUNS; run++) {
            test.run(run);
        }
        test.due.end();
    }

    private void run(int number) {
        both.begin("run " + number);
        boolean own = both.below(4) != 0;
        if (own) {
            layIfThereIsTime(town());
        }
        while (SideBySide.CALLS - both.left() < CALLS) {
            if (both.below(150) == 0) {
                layIfThereIsTime(town());
            }
            both.one(NAMES[both.below(NAMES.length)]);
        }
        all();
    }

    private void layIfThereIsTime(String text) {
        if (both.left() > text.length() + 4 + MOST_AT_THE_END) {
            both.lay(text);
        }
    }

    /** Some have a fault. */
    private String town() {
        String text = both.town(1 + both.below(5), 1 + both.below(6));
        return both.below(4) == 0 ? spoilt(new StringBuilder(text)) : text;
    }

    private String spoilt(StringBuilder text) {
        String letters = "gp,;0123456789 x~";
        int at = both.below(text.length());
        char letter = letters.charAt(both.below(letters.length()));
        switch (both.below(3)) {
            case 0: text.setCharAt(at, letter); break;
            case 1: text.deleteCharAt(at); break;
            default: text.insert(at, letter);
        }
        return text.toString();
    }

    /** At the end all that can be asked for is. */
    private void all() {
        for (int what = -1; what < 11; what++) {
            both.both("count", what, 0, 0, 0);
            both.both("best", what, 0, 0, 0);
            both.both("middle", what, 0, 0, 0);
            both.both("apart", what, 0, 0, 0);
            both.both("nearest", what, 0, 0, 0);
        }
        for (int p = 0; p < both.persons(); p++) {
            for (int g = 0; g < both.gates(); g++) {
                both.both("far", p, g, 0, 0);
                both.both("lessons", p, g, 0, 0);
                both.both("lessons", p, g, 1, 0);
                both.both("likely", p, g, 3, 0);
                both.both("crosses", p, g, 0, 0);
                both.both("crosses", p, 0, g, 0);
            }
            for (int what = 0; what < 6; what++) {
                both.both("person", p, what, 0, 0);
            }
        }
    }
}
