/** Promises 9 to 12, and what the Terms tell of LET IN, ASKS, DRIFT, TALKS, LISTENS and UNDONE, at its edges. */
public final class ActEdgesTest {
    private static final Due DUE = new Due("ActEdgesTest");
    private static final int BAD = GateSayings.BAD, NO = GateSayings.NO, NONE = GateSayings.NONE;

    public static void main(String[] args) {
        noFartherThanTheEar();
        ofWhichGate();
        whereTheyDrift();
        ofSeveralTheFirst();
        asTheyWereAheadOfIt();
        whoIsShutOut();
        talksAtTheFirstPlace();
        listensLikewise();
        alikeAndDifferingNowhere();
        theLatestIsUndone();
        shutOutAndUnchangedAreUndone();
        theLastEight();
        whatIsNotUndone();
        allCallsOfAnObject();
        DUE.end();
    }

    /** Whether the person is let in by a gate with just this ear, and is not with an ear one less. */
    private static void ear(int kind, String gate, String person, int ear) {
        GateSayings x = Due.laid("g" + kind + "," + ear + "," + gate + ";p" + person + ";");
        DUE.is(person + " at " + kind + "," + ear + "," + gate, x.ask(0, 0), 1);
        if (ear > 0) {
            GateSayings less = Due.laid("g" + kind + "," + (ear - 1) + "," + gate + ";p" + person + ";");
            DUE.is(person + " at " + kind + "," + (ear - 1) + "," + gate, less.ask(0, 0), 0);
        }
    }

    private static void noFartherThanTheEar() {
        DUE.says("LET IN is who is no FARTHER than the EAR of the GATE.");
        for (int kind = 0; kind < 4; kind++) {
            ear(kind, "12345", "12345", 0);
        }
        ear(0, "00000", "00001", 1);
        ear(0, "00000", "55555", 25);
        ear(1, "00000", "50000", 0);
        ear(1, "00000", "55555", 20);
        ear(2, "00000", "00001", 2);
        ear(2, "00000", "55555", 30);
        ear(3, "00000", "10000", 2);
        ear(3, "00000", "55550", 40);
        DUE.is("50 far at an ear of 40", Due.laid("g3,40,00000;p55555;").ask(0, 0), 0);
        DUE.is("42 far at an ear of 40", Due.laid("g3,40,00000;p55551;").ask(0, 0), 0);
        DUE.says("A PERSON ASKS: 1 if it is LET IN, 0. BAD.");
        GateSayings x = Due.laid("g0,0,00000;g0,25,00000;p00001;p55555;");
        DUE.is("ask(0, 0)", x.ask(0, 0), 0);
        DUE.is("ask(1, 1)", x.ask(1, 1), 1);
        DUE.is("ask(2, 0)", x.ask(2, 0), BAD);
        DUE.is("ask(0, 2)", x.ask(0, 2), BAD);
        DUE.is("ask(-1, 0)", x.ask(-1, 0), BAD);
        DUE.is("ask(0, -1)", x.ask(0, -1), BAD);
        DUE.is("count(2)", x.count(2), 1);
        DUE.is("count(3)", x.count(3), 1);
        DUE.is("count(7)", x.count(7), 2);
    }

    private static void ofWhichGate() {
        DUE.says("it is of that GATE from then on (of none at first)");
        GateSayings x = Due.laid("g0,40,00000;g0,0,55555;g0,0,11111;g0,0,22222;g0,40,00000;p00000;p00000;");
        DUE.is("person(0, 5) at first", x.person(0, 5), NONE);
        DUE.is("ask(0, 3)", x.ask(0, 3), 0);
        DUE.is("of none while shut out", x.person(0, 5), NONE);
        DUE.is("ask(0, 4)", x.ask(0, 4), 1);
        DUE.is("of the last gate", x.person(0, 5), 4);
        DUE.is("count(4)", x.count(4), 1);
        DUE.is("ask(0, 1)", x.ask(0, 1), 0);
        DUE.is("still, when shut out elsewhere", x.person(0, 5), 4);
        DUE.is("ask(0, 0)", x.ask(0, 0), 1);
        DUE.is("of gate 0", x.person(0, 5), 0);
        DUE.is("count(4): once a person", x.count(4), 1);
        DUE.is("ask(0, 0) again", x.ask(0, 0), 1);
        DUE.is("count(4)", x.count(4), 1);
        DUE.is("the other one is of none", x.person(1, 5), NONE);
        x.ask(1, 0);
        DUE.is("count(4) of two", x.count(4), 2);
        DUE.is("count(2)", x.count(2), 4);
    }

    private static void drift(String gate, String person, String gateThen, String personThen) {
        GateSayings x = Due.laid("g" + gate + ";p" + person + ";");
        DUE.is(person + " at " + gate, x.ask(0, 0), 1);
        DUE.gate(x, 0, gateThen);
        DUE.person(x, 0, personThen, 0);
    }

    private static void whereTheyDrift() {
        DUE.says("at the place at which they differ most (by SOUNDS as they stand, whatever KIND the GATE is;");
        drift("0,40,00000", "10005", "0,40,00001", "00005");
        drift("0,40,55555", "45550", "0,40,55554", "55550");
        drift("1,40,00000", "30100", "1,40,10000", "20100");
        drift("1,40,55555", "05455", "1,40,45555", "15455");
        drift("2,40,00000", "00302", "2,40,00100", "00202");
        drift("2,40,00000", "00203", "2,40,00001", "00103");
        drift("3,40,00000", "10020", "3,40,00010", "00020");
        drift("0,40,00000", "00000", "0,40,00000", "00000");
        drift("3,0,55555", "55555", "3,0,55555", "55555");
        drift("1,0,02345", "52345", "1,0,12345", "42345");
        drift("0,40,00000", "55555", "0,40,10000", "45555");
        drift("0,40,55555", "00000", "0,40,45555", "10000");
    }

    private static void ofSeveralTheFirst() {
        DUE.says("of several the first) the GATE's SOUND comes 1 nearer to the PERSON's;");
        drift("0,40,00000", "02020", "0,40,01000", "01020");
        drift("0,40,00000", "10202", "0,40,00100", "00202");
        drift("0,40,02000", "00002", "0,40,01000", "01002");
        drift("0,40,00200", "12002", "0,40,01200", "02002");
        drift("0,40,33333", "11155", "0,40,23333", "21155");
        drift("0,40,33333", "32415", "0,40,33323", "33415");
        DUE.says("at the first place at which they differ the PERSON's comes 1 nearer to the GATE's");
        drift("0,40,00000", "00012", "0,40,00001", "00002");
        drift("0,40,00550", "00005", "0,40,00450", "00105");
        drift("0,40,00004", "00005", "0,40,00005", "00004");
    }

    private static void asTheyWereAheadOfIt() {
        DUE.says("(both as they were ahead of it)");
        drift("0,40,00000", "10000", "0,40,10000", "00000");
        drift("0,40,10000", "00000", "0,40,00000", "10000");
        drift("0,40,00000", "20000", "0,40,10000", "10000");
        drift("0,40,00000", "00100", "0,40,00100", "00000");
        drift("0,40,55554", "55555", "0,40,55555", "55554");
    }

    private static void whoIsShutOut() {
        DUE.says("Who is not LET IN is SHUT OUT, and nothing is other but how many were.");
        GateSayings x = Due.laid("g0,1,00000;g3,9,54321;p00002;p11111;");
        String ahead = Due.gateOf(x, 0) + Due.gateOf(x, 1) + Due.sayingOf(x, 0) + Due.sayingOf(x, 1);
        for (int i = 1; i <= 3; i++) {
            DUE.is("ask(0, 0)", x.ask(0, 0), 0);
            DUE.is("count(3)", x.count(3), i);
            DUE.is("count(7)", x.count(7), i);
        }
        DUE.text("gates and persons", Due.gateOf(x, 0) + Due.gateOf(x, 1) + Due.sayingOf(x, 0) + Due.sayingOf(x, 1), ahead);
        DUE.is("count(2)", x.count(2), 0);
        DUE.is("count(4)", x.count(4), 0);
        DUE.is("count(5)", x.count(5), 0);
        DUE.is("count(6)", x.count(6), 0);
        DUE.is("count(8)", x.count(8), 0);
    }

    private static void talksAtTheFirstPlace() {
        DUE.says("at the first place at which they differ the first one's SOUND comes 1 nearer to the other one's.");
        for (int k = 0; k < 5; k++) {
            String zero = "00000";
            String five = zero.substring(0, k) + "5" + zero.substring(k + 1);
            GateSayings x = Due.laid("g0,0,00000;p00000;p" + five + ";");
            for (int sound = 1; sound <= 5; sound++) {
                DUE.is("talk(0, 1) up to " + sound, x.talk(0, 1), k);
                DUE.is("person(0, " + k + ")", x.person(0, k), sound);
            }
            DUE.is("talk(0, 1) at the end", x.talk(0, 1), NO);
            DUE.person(x, 0, five, NONE);
            DUE.person(x, 1, five, NONE);
            GateSayings down = Due.laid("g0,0,00000;p00000;p" + five + ";");
            for (int sound = 4; sound >= 0; sound--) {
                DUE.is("talk(1, 0) down to " + sound, down.talk(1, 0), k);
                DUE.is("person(1, " + k + ")", down.person(1, k), sound);
            }
            DUE.is("talk(1, 0) at the end", down.talk(1, 0), NO);
            DUE.person(down, 0, zero, NONE);
            DUE.person(down, 1, zero, NONE);
        }
        GateSayings first = Due.laid("g0,0,00000;p00105;p05500;");
        DUE.is("talk(0, 1): the first, not the widest", first.talk(0, 1), 1);
        DUE.person(first, 0, "01105", NONE);
        GateSayings last = Due.laid("g0,0,00000;p00000;p00000;p00000;p00000;p11111;p00001;");
        DUE.is("talk(5, 4)", last.talk(5, 4), 0);
        DUE.person(last, 5, "10001", NONE);
        DUE.is("talk(0, 5)", last.talk(0, 5), 0);
        DUE.person(last, 0, "10000", NONE);
    }

    private static void listensLikewise() {
        DUE.says("A GATE LISTENS to another one likewise.");
        for (int k = 0; k < 5; k++) {
            String zero = "00000";
            String five = zero.substring(0, k) + "5" + zero.substring(k + 1);
            GateSayings x = Due.laid("g1,7," + zero + ";g2,8," + five + ";p00000;");
            for (int sound = 1; sound <= 5; sound++) {
                DUE.is("listen(0, 1) up to " + sound, x.listen(0, 1), k);
                DUE.is("gate(0, " + k + ")", x.gate(0, k), sound);
            }
            DUE.is("listen(0, 1) at the end", x.listen(0, 1), NO);
            DUE.gate(x, 0, "1,7," + five);
            DUE.gate(x, 1, "2,8," + five);
            GateSayings down = Due.laid("g1,7," + zero + ";g2,8," + five + ";p00000;");
            for (int sound = 4; sound >= 0; sound--) {
                DUE.is("listen(1, 0) down to " + sound, down.listen(1, 0), k);
                DUE.is("gate(1, " + k + ")", down.gate(1, k), sound);
            }
            DUE.is("listen(1, 0) at the end", down.listen(1, 0), NO);
            DUE.gate(down, 1, "2,8," + zero);
            DUE.gate(down, 0, "1,7," + zero);
        }
        GateSayings last = Due.laid("g0,0,00000;g0,0,00000;g0,0,00000;g0,0,11111;g0,0,01501;p00000;");
        DUE.is("listen(4, 3): the first, not the widest", last.listen(4, 3), 0);
        DUE.gate(last, 4, "0,0,11501");
        DUE.is("listen(4, 3)", last.listen(4, 3), 2);
        DUE.gate(last, 4, "0,0,11401");
        DUE.person(last, 0, "00000", NONE);
    }

    private static void alikeAndDifferingNowhere() {
        DUE.says("A PERSON TALKS with another one: the place. BAD (alike, too); NO: they differ nowhere.");
        GateSayings x = Due.laid("g0,0,00000;g1,9,00000;p12345;p12345;");
        DUE.is("talk(0, 1)", x.talk(0, 1), NO);
        DUE.is("talk(1, 0)", x.talk(1, 0), NO);
        DUE.is("talk(0, 0)", x.talk(0, 0), BAD);
        DUE.is("talk(1, 1)", x.talk(1, 1), BAD);
        DUE.is("talk(0, 2)", x.talk(0, 2), BAD);
        DUE.is("talk(2, 0)", x.talk(2, 0), BAD);
        DUE.is("talk(2, 2)", x.talk(2, 2), BAD);
        DUE.is("talk(-1, -1)", x.talk(-1, -1), BAD);
        DUE.says("A GATE LISTENS to another one: the place. BAD (alike, too); NO: they differ nowhere.");
        DUE.is("listen(0, 1): of another kind", x.listen(0, 1), NO);
        DUE.is("listen(1, 0)", x.listen(1, 0), NO);
        DUE.is("listen(0, 0)", x.listen(0, 0), BAD);
        DUE.is("listen(1, 1)", x.listen(1, 1), BAD);
        DUE.is("listen(0, 2)", x.listen(0, 2), BAD);
        DUE.is("listen(2, 0)", x.listen(2, 0), BAD);
        DUE.is("listen(2, 2)", x.listen(2, 2), BAD);
        DUE.is("listen(-1, -1)", x.listen(-1, -1), BAD);
        DUE.is("count(7): NO and BAD are none of these", x.count(7), 0);
        DUE.is("undo()", x.undo(), NO);
    }

    private static void theLatestIsUndone() {
        DUE.says("UNDONE is the latest of these");
        GateSayings x = Due.laid("g0,40,00000;g0,0,50000;p20000;p30000;");
        DUE.is("undo() of nothing", x.undo(), NO);
        x.ask(0, 0);
        x.talk(1, 0);
        x.listen(1, 0);
        DUE.gate(x, 1, "0,0,40000");
        DUE.is("undo() of a listening", x.undo(), 2);
        DUE.gate(x, 1, "0,0,50000");
        DUE.person(x, 1, "20000", NONE);
        DUE.is("undo() of a talk", x.undo(), 1);
        DUE.person(x, 1, "30000", NONE);
        DUE.person(x, 0, "10000", 0);
        DUE.gate(x, 0, "0,40,10000");
        DUE.is("undo() of who was let in", x.undo(), 0);
        DUE.person(x, 0, "20000", NONE);
        DUE.gate(x, 0, "0,40,00000");
        DUE.is("count(2)", x.count(2), 0);
        DUE.is("undo() of nothing", x.undo(), NO);
        DUE.is("an act behind it", x.talk(0, 1), 0);
        DUE.is("undo() of that", x.undo(), 0);
        DUE.person(x, 0, "20000", NONE);
        x.ask(0, 0);
        x.ask(0, 0);
        DUE.is("undo() of the latter ask", x.undo(), 1);
        DUE.is("it is of the gate still", x.person(0, 5), 0);
        DUE.is("count(2)", x.count(2), 1);
        DUE.is("count(4)", x.count(4), 1);
    }

    private static void shutOutAndUnchangedAreUndone() {
        DUE.says("(also who was SHUT OUT; such by which nothing becomes another, too; the last 8 can be)");
        GateSayings x = Due.laid("g0,0,00000;p00000;p00001;p50000;");
        x.talk(2, 1);
        DUE.is("ask(1, 0)", x.ask(1, 0), 0);
        DUE.is("count(7)", x.count(7), 2);
        DUE.is("ask(0, 0): all alike", x.ask(0, 0), 1);
        DUE.is("ask(0, 0): nothing becomes another", x.ask(0, 0), 1);
        DUE.is("count(7)", x.count(7), 4);
        DUE.is("undo()", x.undo(), 3);
        DUE.is("person(0, 5)", x.person(0, 5), 0);
        DUE.is("count(2)", x.count(2), 1);
        DUE.is("undo()", x.undo(), 2);
        DUE.is("person(0, 5)", x.person(0, 5), NONE);
        DUE.is("count(2)", x.count(2), 0);
        DUE.is("count(3)", x.count(3), 1);
        DUE.is("undo() of who was shut out", x.undo(), 1);
        DUE.is("count(3)", x.count(3), 0);
        DUE.person(x, 2, "40000", NONE);
        DUE.is("undo()", x.undo(), 0);
        DUE.person(x, 2, "50000", NONE);
    }

    private static void theLastEight() {
        DUE.says("the last 8 can be");
        for (int acts = 1; acts <= 12; acts++) {
            GateSayings x = Due.laid("g0,0,00000;p00000;p55555;");
            for (int i = 0; i < acts; i++) {
                x.talk(0, 1);
            }
            int can = Math.min(acts, 8);
            DUE.is("count(7) behind " + acts, x.count(7), can);
            for (int left = can - 1; left >= 0; left--) {
                DUE.is("undo() behind " + acts, x.undo(), left);
                DUE.is("count(7)", x.count(7), left);
                DUE.is("talks that stay, of " + acts, sounds(x, 0), acts - can + left);
            }
            DUE.is("undo() once more", x.undo(), NO);
            DUE.is("talks that stay, of " + acts, sounds(x, 0), acts - can);
        }
        GateSayings mixed = Due.laid("g0,0,00000;g0,40,55555;p00001;p55555;");
        DUE.is("talk(0, 1), the ninth from the end", mixed.talk(0, 1), 0);
        for (int i = 0; i < 2; i++) {
            mixed.ask(0, 0);
            mixed.talk(0, 1);
            mixed.listen(0, 1);
            mixed.ask(1, 1);
        }
        DUE.is("count(7)", mixed.count(7), 8);
        for (int left = 7; left >= 0; left--) {
            DUE.is("undo()", mixed.undo(), left);
        }
        DUE.is("undo() of the ninth", mixed.undo(), NO);
        DUE.person(mixed, 0, "10001", NONE);
        DUE.person(mixed, 1, "55555", NONE);
        DUE.gate(mixed, 0, "0,0,00000");
        DUE.gate(mixed, 1, "0,40,55555");
        DUE.is("count(2)", mixed.count(2), 0);
        DUE.is("count(3)", mixed.count(3), 0);
        for (int i = 1; i <= 9; i++) {
            mixed.ask(0, 0);
            DUE.is("count(7) anew", mixed.count(7), Math.min(i, 8));
        }
    }

    private static int sounds(GateSayings x, int p) {
        int sum = 0;
        for (int k = 0; k < 5; k++) {
            sum += x.person(p, k);
        }
        return sum;
    }

    private static void whatIsNotUndone() {
        DUE.says("UNDONE: how many more can be. NO.");
        GateSayings x = Due.laid("g0,40,00000;p20000;p30000;");
        x.ask(0, 0);
        x.seen(0, 0, 1);
        x.heard(0, 0);
        x.keep();
        x.write('x');
        DUE.is("only the ask can be undone", x.undo(), 0);
        DUE.is("what is seen stays", x.count(5), 1);
        DUE.is("what is heard stays", x.count(6), 1);
        DUE.is("what is kept stays", x.count(8), 1);
        DUE.is("THE TEXT stays", x.count(9), 27);
        DUE.is("an undo can not be undone", x.undo(), NO);
        DUE.is("back()", x.back(), 0);
        DUE.person(x, 0, "10000", 0);
        DUE.is("undo() behind back", x.undo(), NO);
    }

    private static void allCallsOfAnObject() {
        DUE.says("An object is used for at most 512 calls after it has been made; what later calls answer is free.");
        GateSayings x = new GateSayings();
        for (int call = 1; call <= 508; call++) {
            x.ask(1, 3);
        }
        DUE.is("call 509, undo()", x.undo(), 7);
        DUE.is("call 510, count(3)", x.count(3), 507);
        DUE.is("call 511, count(7)", x.count(7), 7);
        DUE.is("call 512, ask(0, 0)", x.ask(0, 0), 1);
    }
}
