/** All promises: long runs of calls, the class against PlainTown. The same runs each time. */
public final class RandomRunsTest {
    private static final int RUNS = 600;
    /** With those of all() they stay below the 512 for which an object is promised. */
    private static final int CALLS = 150;
    private static final String[] NAMES = {
        "wipe", "fault", "lay", "gate", "person", "far", "ask", "ask", "ask", "ask", "talk", "talk", "talk",
        "listen", "listen", "undo", "opens", "best", "middle", "lessons", "lessons", "apart", "crosses", "crosses",
        "seen", "seen", "kinds", "ears", "heard", "heard", "from", "nearest", "forget", "likely", "year",
        "keep", "back", "count", "count",
    };
    private static final int[] EDGES = {-1, -5, 5, 6, 7, 10, 11, 60, 61, 9999, 10000, 1 << 30, Integer.MIN_VALUE};

    private final Due due = new Due("RandomRunsTest");
    private long seed = 20261118L;
    private GateSayings given;
    private PlainTown plain;
    private String run;

    public static void main(String[] args) {
        RandomRunsTest test = new RandomRunsTest();
        for (int run = 0; run < RUNS; run++) {
            test.run(run);
        }
        test.due.end();
    }

    private int below(int bound) {
        seed = seed * 6364136223846793005L + 1442695040888963407L;
        return (int) ((seed >>> 33) % bound);
    }

    private void run(int number) {
        run = "run " + number + ", ";
        given = new GateSayings();
        plain = new PlainTown();
        int calls = 0;
        boolean own = below(4) != 0;
        while (calls < CALLS) {
            if (calls == 0 && own || below(150) == 0) {
                calls += lay(town());
            }
            one(NAMES[below(NAMES.length)]);
            calls++;
        }
        all();
    }

    private int lay(String text) {
        both("wipe", 0, 0, 0, 0);
        for (char letter : text.toCharArray()) {
            both("write", letter, 0, 0, 0);
        }
        both("fault", 0, 0, 0, 0);
        both("lay", 0, 0, 0, 0);
        return text.length() + 3;
    }

    private String saying(int sounds) {
        StringBuilder told = new StringBuilder();
        for (int k = 0; k < 5; k++) {
            told.append(below(sounds));
        }
        return told.toString();
    }

    /** Some towns say it nearly alike, so that asking and crossing go on; some have a fault. */
    private String town() {
        StringBuilder text = new StringBuilder();
        int sounds = 2 + below(5);
        int ears = below(3) == 0 ? 41 : 12;
        int gates = 1 + below(5);
        int persons = 1 + below(6);
        while (gates + persons > 0) {
            if (below(gates + persons) < gates) {
                text.append(below(9) == 0 ? "g0" : "g").append(below(4)).append(',').append(below(ears)).append(',');
                text.append(saying(sounds)).append(';');
                gates--;
            } else {
                text.append('p').append(saying(sounds)).append(';');
                persons--;
            }
        }
        if (below(4) == 0) {
            spoil(text);
        }
        return text.toString();
    }

    private void spoil(StringBuilder text) {
        String letters = "gp,;0123456789 x~";
        int at = below(text.length());
        switch (below(3)) {
            case 0: text.setCharAt(at, letters.charAt(below(letters.length()))); break;
            case 1: text.deleteCharAt(at); break;
            default: text.insert(at, letters.charAt(below(letters.length())));
        }
    }

    private int number(int bound) {
        return below(25) == 0 ? EDGES[below(EDGES.length)] : below(Math.max(bound, 1));
    }

    private void one(String name) {
        int p = number(plain.persons());
        int g = number(plain.gates());
        switch (name) {
            case "gate": both(name, g, number(7), 0, 0); break;
            case "person": both(name, p, number(6), 0, 0); break;
            case "far": case "ask": both(name, p, g, 0, 0); break;
            case "talk": both(name, p, number(plain.persons()), 0, 0); break;
            case "listen": both(name, g, number(plain.gates()), 0, 0); break;
            case "opens": both(name, p, 0, 0, 0); break;
            case "best": case "middle": both(name, number(6) - 1, 0, 0, 0); break;
            case "lessons": case "seen": both(name, p, g, number(2), 0); break;
            case "apart": case "nearest": both(name, number(2), 0, 0, 0); break;
            case "crosses": both(name, p, g, number(plain.gates()), 0); break;
            case "kinds": both(name, g, 0, 0, 0); break;
            case "ears": both(name, g, number(2), 0, 0); break;
            case "heard": both(name, number(5), number(6), 0, 0); break;
            case "likely": both(name, p, g, number(11), number(2)); break;
            case "year": both(name, number(10000), number(60) + 1, number(3), 0); break;
            case "count": both(name, number(10), 0, 0, 0); break;
            default: both(name, 0, 0, 0, 0);
        }
    }

    /** At the end all that can be asked for is. */
    private void all() {
        for (int what = -1; what < 11; what++) {
            both("count", what, 0, 0, 0);
            both("best", what, 0, 0, 0);
            both("middle", what, 0, 0, 0);
            both("apart", what, 0, 0, 0);
            both("nearest", what, 0, 0, 0);
        }
        for (int p = 0; p < plain.persons(); p++) {
            for (int g = 0; g < plain.gates(); g++) {
                both("far", p, g, 0, 0);
                both("lessons", p, g, 0, 0);
                both("lessons", p, g, 1, 0);
                both("likely", p, g, 3, 0);
                both("crosses", p, g, 0, 0);
                both("crosses", p, 0, g, 0);
            }
            for (int what = 0; what < 6; what++) {
                both("person", p, what, 0, 0);
            }
        }
    }

    private void both(String name, int a, int b, int c, int d) {
        due.is(run + name + "(" + a + ", " + b + ", " + c + ", " + d + ")", Calls.answer(given, name, a, b, c, d),
            plain.call(name, a, b, c, d));
    }
}
