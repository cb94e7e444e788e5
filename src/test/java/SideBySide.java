/**
 * The class and PlainTown, asked the same, call by call: each must be answered alike. Towns and numbers are
 * drawn, the same ones each time for the same seed.
 */
final class SideBySide {
    /** Nothing is promised of later calls of an object. */
    static final int CALLS = 512;
    static final int MOST_LETTERS = 200;
    private static final int[] EDGES = {-1, -5, 5, 6, 7, 10, 11, 60, 61, 9999, 10000, 1 << 30, Integer.MIN_VALUE};

    private final Due due;
    private long seed;
    private GateSayings given;
    private PlainTown plain;
    private String run;
    private int made;

    SideBySide(Due due, long seed) {
        this.due = due;
        this.seed = seed;
    }

    void begin(String name) {
        run = name + ", ";
        given = new GateSayings();
        plain = new PlainTown();
        made = 0;
    }

    int left() {
        return CALLS - made;
    }

    int gates() {
        return plain.gates();
    }

    int persons() {
        return plain.persons();
    }

    int below(int bound) {
        seed = seed * 6364136223846793005L + 1442695040888963407L;
        return (int) ((seed >>> 33) % bound);
    }

    void lay(String text) {
        both("wipe", 0, 0, 0, 0);
        write(text);
        both("fault", 0, 0, 0, 0);
        both("lay", 0, 0, 0, 0);
    }

    void write(String text) {
        for (char letter : text.toCharArray()) {
            both("write", letter, 0, 0, 0);
        }
    }

    /** Some towns say it nearly alike, so that asking and crossing go on. */
    String town(int gates, int persons) {
        StringBuilder text = new StringBuilder();
        int sounds = 2 + below(5);
        int ears = below(3) == 0 ? 41 : 12;
        int gatesLeft = gates;
        int personsLeft = persons;
        while (gatesLeft + personsLeft > 0) {
            if (below(gatesLeft + personsLeft) < gatesLeft) {
                text.append(below(9) == 0 ? "g0" : "g").append(below(4)).append(',').append(below(ears)).append(',');
                text.append(saying(sounds)).append(';');
                gatesLeft--;
            } else {
                text.append('p').append(saying(sounds)).append(';');
                personsLeft--;
            }
        }
        return text.toString();
    }

    private String saying(int sounds) {
        StringBuilder told = new StringBuilder();
        for (int k = 0; k < 5; k++) {
            told.append(below(sounds));
        }
        return told.toString();
    }

    /** Most of them such as there are. */
    private int number(int bound) {
        return below(25) == 0 ? EDGES[below(EDGES.length)] : below(Math.max(bound, 1));
    }

    /** The call, its numbers drawn. */
    void one(String name) {
        int p = number(persons());
        int g = number(gates());
        switch (name) {
            case "write": both(name, 31 + below(97), 0, 0, 0); break;
            case "gate": both(name, g, number(7), 0, 0); break;
            case "person": both(name, p, number(6), 0, 0); break;
            case "far": case "ask": both(name, p, g, 0, 0); break;
            case "talk": both(name, p, number(persons()), 0, 0); break;
            case "listen": both(name, g, number(gates()), 0, 0); break;
            case "opens": both(name, p, 0, 0, 0); break;
            case "best": case "middle": both(name, number(6) - 1, 0, 0, 0); break;
            case "lessons": case "seen": both(name, p, g, number(2), 0); break;
            case "apart": case "nearest": both(name, number(2), 0, 0, 0); break;
            case "crosses": both(name, p, g, number(gates()), 0); break;
            case "kinds": both(name, g, 0, 0, 0); break;
            case "ears": both(name, g, number(2), 0, 0); break;
            case "heard": both(name, number(5), number(6), 0, 0); break;
            case "likely": both(name, p, g, number(11), number(2)); break;
            case "year": both(name, number(10000), number(60) + 1, number(3), 0); break;
            case "count": both(name, number(10), 0, 0, 0); break;
            default: both(name, 0, 0, 0, 0);
        }
    }

    /** What it answered. A call beyond the last that is promised of is a mistake of the test. */
    int both(String name, int a, int b, int c, int d) {
        if (left() < 1) {
            throw new IllegalStateException(run + "more than " + CALLS + " calls");
        }
        made++;
        int got = Calls.answer(given, name, a, b, c, d);
        due.is(run + "call " + made + ", " + name + "(" + a + ", " + b + ", " + c + ", " + d + ")", got,
            plain.call(name, a, b, c, d));
        return got;
    }
}
