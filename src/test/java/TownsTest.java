/** Promises 1 to 8: a new object, write, wipe, fault, lay, gate, person, far. */
public final class TownsTest {
    private static final Due DUE = new Due("TownsTest");
    private static final String GATE = "g0,4,01234;";
    private static final String PERSON = "p01333;";

    public static void main(String[] args) {
        newObject();
        writing();
        wiping();
        faults();
        laying();
        layingForgets();
        gates();
        persons();
        distances();
        DUE.end();
    }

    private static void newObject() {
        GateSayings x = new GateSayings();
        int[] due = {4, 4, 0, 0, 0, 0, 0, 0, 0, 0};
        for (int what = 0; what < 10; what++) {
            DUE.is("count(" + what + ") of a new object", x.count(what), due[what]);
        }
        firstTown(x);
        DUE.is("fault() of a new object", x.fault(), GateSayings.NONE);
        DUE.is("wipe() of a new object", x.wipe(), 0);
        DUE.is("undo() of a new object", x.undo(), GateSayings.NO);
        DUE.is("back() of a new object", x.back(), GateSayings.NO);
    }

    private static void firstTown(GateSayings x) {
        DUE.gate(x, 0, "0,4,01234");
        DUE.gate(x, 1, "1,3,31230");
        DUE.gate(x, 2, "2,5,00555");
        DUE.gate(x, 3, "3,8,12321");
        DUE.person(x, 0, "01333", GateSayings.NONE);
        DUE.person(x, 1, "55000", GateSayings.NONE);
        DUE.person(x, 2, "02244", GateSayings.NONE);
        DUE.person(x, 3, "31212", GateSayings.NONE);
    }

    private static void writing() {
        GateSayings x = new GateSayings();
        for (int letter : new int[] {31, 127, -1, 0, 128, 256 + 65, Integer.MIN_VALUE, Integer.MAX_VALUE}) {
            DUE.is("write(" + letter + ")", x.write(letter), GateSayings.BAD);
        }
        DUE.is("count(9) behind bad letters", x.count(9), 0);
        DUE.is("write(32)", x.write(32), 1);
        DUE.is("write(126)", x.write(126), 2);
        for (int length = 3; length <= 200; length++) {
            DUE.is("write to " + length, x.write('p'), length);
        }
        DUE.is("write to a full text", x.write('p'), GateSayings.FULL);
        DUE.is("a bad letter to a full text", x.write(31), GateSayings.BAD);
        DUE.is("count(9) of a full text", x.count(9), 200);
        DUE.is("wipe() of a full text", x.wipe(), 200);
        DUE.is("write behind wipe", x.write('p'), 1);
    }

    private static void wiping() {
        GateSayings x = new GateSayings();
        Due.write(x, "p0000");
        DUE.is("wipe()", x.wipe(), 5);
        DUE.is("wipe() again", x.wipe(), 0);
        DUE.is("count(9) behind wipe", x.count(9), 0);
        Due.write(x, PERSON);
        DUE.is("fault() does not see what was wiped", x.fault(), GateSayings.NONE);
    }

    private static void fault(String text, int want) {
        GateSayings x = new GateSayings();
        Due.write(x, text);
        DUE.is("fault() of " + text, x.fault(), want);
        DUE.is("fault() again of " + text, x.fault(), want);
        if (want != GateSayings.NONE) {
            DUE.is("lay() of " + text, x.lay(), GateSayings.NO);
            firstTown(x);
        }
    }

    private static void faults() {
        int none = GateSayings.NONE;
        fault("", none);
        fault(GATE, none);
        fault(PERSON, none);
        fault(PERSON + GATE + PERSON, none);
        fault("g3,40,55555;", none);
        fault("g03,04,00000;", none);
        fault("g00,00,00000;", none);
        String[] notSo = {
            "g4,0,00000;", "g04,0,00000;", "g10,0,00000;", "g003,0,00000;", "g,0,00000;", "g-1,0,00000;",
            "g0,41,00000;", "g0,99,00000;", "g0,004,00000;", "g0,,00000;", "g0,040,00000;", "g0, 4,00000;",
            "g0,4,0000;", "g0,4,000000;", "g0,4,00006;", "g0,4,60000;", "g0,4,0000x;", "g0,4,00000", "g0,4,00000,",
            "g0,4;", "g0;", "g", "g0", "g0,", "g0,4", "g0,4,", "g0.4,00000;", "g0,4.00000;", "g0,4,00000:",
            "G0,4,00000;", "p0000;", "p000000;", "p00006;", "p00060;", "p0000", "p00000", "p00000,", "p", "P00000;",
            "p0,000;", "p 0000;", "q00000;", ";", "x", " ", "0", ",", "p/0000;", "p:0000;", "g/,4,00000;", "g0,:,00000;",
        };
        for (String item : notSo) {
            fault(item, 0);
            fault(item + PERSON, 0);
            fault(GATE + item, GATE.length());
            fault(PERSON + GATE + item + item, PERSON.length() + GATE.length());
        }
        fault(PERSON + " " + PERSON, 7);
        fault(PERSON + ";", 7);
        fault(GATE.repeat(5), none);
        fault(GATE.repeat(6), 55);
        fault(GATE.repeat(5) + PERSON + GATE + PERSON, 62);
        fault(PERSON.repeat(6), none);
        fault(PERSON.repeat(7), 42);
        fault(PERSON.repeat(6) + GATE.repeat(5), none);
        fault(PERSON.repeat(6) + GATE + PERSON, 53);
        fault("g03,40,01234;".repeat(5) + PERSON.repeat(6), none);
        fault(PERSON.repeat(28) + "p013", 42);
    }

    private static void laying() {
        GateSayings x = new GateSayings();
        DUE.is("lay() of nothing", x.lay(), GateSayings.NO);
        Due.write(x, GATE);
        DUE.is("lay() without a person", x.lay(), GateSayings.NO);
        x.wipe();
        Due.write(x, PERSON);
        DUE.is("lay() without a gate", x.lay(), GateSayings.NO);
        firstTown(x);
        Due.write(x, "g03,40,54321;p11111;");
        DUE.is("lay()", x.lay(), 2);
        DUE.is("THE TEXT stays", x.count(9), 27);
        DUE.is("count(0)", x.count(0), 1);
        DUE.is("count(1)", x.count(1), 2);
        DUE.gate(x, 0, "3,40,54321");
        DUE.person(x, 0, "01333", GateSayings.NONE);
        DUE.person(x, 1, "11111", GateSayings.NONE);
        DUE.is("gate(1, 0)", x.gate(1, 0), GateSayings.BAD);
        DUE.is("person(2, 0)", x.person(2, 0), GateSayings.BAD);
        x.talk(0, 1);
        DUE.is("lay() again", x.lay(), 2);
        DUE.person(x, 0, "01333", GateSayings.NONE);
        GateSayings full = Due.laid(PERSON.repeat(5) + GATE.repeat(4) + "g1,9,55555;" + "p54321;");
        DUE.gate(full, 4, "1,9,55555");
        DUE.person(full, 5, "54321", GateSayings.NONE);
    }

    private static GateSayings busy(String text) {
        GateSayings x = new GateSayings();
        Due.write(x, text);
        x.ask(0, 0);
        x.ask(3, 0);
        x.seen(0, 0, 0);
        x.heard(0, 5);
        x.keep();
        return x;
    }

    private static void layingForgets() {
        GateSayings x = busy(GATE + PERSON);
        DUE.is("lay() of a busy town", x.lay(), 1);
        int[] due = {1, 1, 0, 0, 0, 0, 0, 0, 0, 18};
        for (int what = 0; what < 10; what++) {
            DUE.is("count(" + what + ") behind lay", x.count(what), due[what]);
        }
        DUE.gate(x, 0, "0,4,01234");
        DUE.person(x, 0, "01333", GateSayings.NONE);
        DUE.is("undo() behind lay", x.undo(), GateSayings.NO);
        DUE.is("back() behind lay", x.back(), GateSayings.NO);
        DUE.is("kinds(0) behind lay", x.kinds(0), 15);
        GateSayings tried = new GateSayings();
        Due.write(tried, GATE + PERSON);
        tried.year(77, 60, 0);
        tried.lay();
        DUE.is("count(2): a year ahead of lay", tried.count(2), 0);
        DUE.is("count(3): a year ahead of lay", tried.count(3), 0);
        DUE.is("from() behind lay", x.from(), 1);
        GateSayings y = busy("p00000;x");
        String ahead = Due.stand(y);
        DUE.is("lay() of a fault", y.lay(), GateSayings.NO);
        DUE.text("all behind a fault", Due.stand(y), ahead);
        DUE.is("undo() behind a fault", y.undo(), 1);
        DUE.is("back() behind a fault", y.back(), 0);
    }

    private static void gates() {
        GateSayings x = new GateSayings();
        int[] one = {3, 1, 2, 3, 0, 1, 3};
        for (int what = 0; what < 7; what++) {
            DUE.is("gate(1, " + what + ")", x.gate(1, what), one[what]);
        }
        for (int bad : Due.NEVER) {
            DUE.is("gate(" + bad + ", 0)", x.gate(bad, 0), GateSayings.BAD);
            DUE.is("gate(0, " + bad + ")", x.gate(0, bad), GateSayings.BAD);
        }
        DUE.is("gate(4, 0)", x.gate(4, 0), GateSayings.BAD);
    }

    private static void persons() {
        GateSayings x = new GateSayings();
        int[] three = {3, 1, 2, 1, 2, GateSayings.NONE};
        for (int what = 0; what < 6; what++) {
            DUE.is("person(3, " + what + ")", x.person(3, what), three[what]);
        }
        for (int bad : Due.NEVER) {
            DUE.is("person(" + bad + ", 0)", x.person(bad, 0), GateSayings.BAD);
            DUE.is("person(0, " + bad + ")", x.person(0, bad), GateSayings.BAD);
        }
        DUE.is("person(4, 0)", x.person(4, 0), GateSayings.BAD);
        DUE.is("person(0, 6)", x.person(0, 6), GateSayings.BAD);
        x.ask(0, 0);
        DUE.is("person(0, 5) let in at 0", x.person(0, 5), 0);
    }

    private static void distances() {
        GateSayings x = Due.laid("g0,0,00000;g1,0,00000;g2,0,00000;g3,0,00000;g0,0,55555;p12345;p00000;p55555;");
        int[] due = {15, 14, 20, 30, 10};
        int[] widest = {25, 20, 30, 50, 0};
        for (int g = 0; g < 5; g++) {
            DUE.is("far(0, " + g + ")", x.far(0, g), due[g]);
            DUE.is("far(2, " + g + ")", x.far(2, g), widest[g]);
            DUE.is("far(1, " + g + ")", x.far(1, g), g == 4 ? 25 : 0);
        }
        for (int bad : Due.NEVER) {
            DUE.is("far(" + bad + ", 0)", x.far(bad, 0), GateSayings.BAD);
            DUE.is("far(0, " + bad + ")", x.far(0, bad), GateSayings.BAD);
        }
        DUE.is("far(3, 0)", x.far(3, 0), GateSayings.BAD);
        DUE.is("far(0, 5)", x.far(0, 5), GateSayings.BAD);
    }
}
