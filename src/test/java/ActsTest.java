/** Promises 9 to 12: ask, talk, listen, undo. */
public final class ActsTest {
    private static final Due DUE = new Due("ActsTest");

    public static void main(String[] args) {
        lettingIn();
        drifting();
        shuttingOut();
        asksThatAreBad();
        talking();
        listening();
        undoing();
        undoingTheLastEight();
        undoingWhatChangedNothing();
        DUE.end();
    }

    private static void lettingIn() {
        GateSayings x = Due.laid("g0,2,01234;g0,1,01234;p01333;");
        DUE.is("as far as the ear", x.ask(0, 0), 1);
        DUE.person(x, 0, "01233", 0);
        DUE.gate(x, 0, "0,2,01334");
        DUE.gate(x, 1, "0,1,01234");
        DUE.is("count(2)", x.count(2), 1);
        DUE.is("count(3)", x.count(3), 0);
        DUE.is("count(4)", x.count(4), 1);
        DUE.is("at another gate", x.ask(0, 1), 1);
        DUE.person(x, 0, "01234", 1);
        DUE.is("count(4): of the latter gate", x.count(4), 1);
        GateSayings y = Due.laid("g0,1,01234;p01333;");
        DUE.is("one farther than the ear", y.ask(0, 0), 0);
    }

    /** One ask at an open gate: what both say then. */
    private static void drift(String gate, String person, String gateThen, String personThen) {
        GateSayings x = Due.laid("g" + gate + ";p" + person + ";");
        DUE.is(person + " at " + gate, x.ask(0, 0), 1);
        DUE.gate(x, 0, gateThen);
        DUE.person(x, 0, personThen, 0);
    }

    private static void drifting() {
        drift("0,40,00000", "00000", "0,40,00000", "00000");
        drift("0,40,00000", "10300", "0,40,00100", "00300");
        drift("0,40,00300", "10000", "0,40,00200", "00000");
        drift("0,40,55555", "42524", "0,40,54555", "52524");
        drift("0,40,55555", "44444", "0,40,45555", "54444");
        drift("0,40,00000", "02020", "0,40,01000", "01020");
        drift("0,40,00000", "00005", "0,40,00001", "00004");
        drift("0,40,00002", "00003", "0,40,00003", "00002");
        drift("1,40,00000", "50300", "1,40,10000", "40300");
        drift("1,0,00000", "50000", "1,0,10000", "40000");
        drift("2,40,00000", "00302", "2,40,00100", "00202");
        drift("3,40,00000", "10020", "3,40,00010", "00020");
    }

    private static void shuttingOut() {
        GateSayings x = Due.laid("g0,0,00000;g0,40,00000;p00001;p55555;");
        DUE.is("ask(0, 0)", x.ask(0, 0), 0);
        DUE.person(x, 0, "00001", GateSayings.NONE);
        DUE.gate(x, 0, "0,0,00000");
        DUE.is("count(2)", x.count(2), 0);
        DUE.is("count(3)", x.count(3), 1);
        DUE.is("count(4)", x.count(4), 0);
        DUE.is("ask(1, 1)", x.ask(1, 1), 1);
        DUE.is("ask(1, 0)", x.ask(1, 0), 0);
        DUE.is("it is of the gate that let it in", x.person(1, 5), 1);
        DUE.is("count(3)", x.count(3), 2);
    }

    private static void asksThatAreBad() {
        GateSayings x = Due.laid("g0,40,00000;g0,40,11111;p00001;p55555;p22222;");
        String ahead = Due.stand(x);
        for (int bad : Due.NEVER) {
            DUE.is("ask(" + bad + ", 0)", x.ask(bad, 0), GateSayings.BAD);
            DUE.is("ask(0, " + bad + ")", x.ask(0, bad), GateSayings.BAD);
            DUE.is("talk(" + bad + ", 0)", x.talk(bad, 0), GateSayings.BAD);
            DUE.is("talk(0, " + bad + ")", x.talk(0, bad), GateSayings.BAD);
            DUE.is("talk(" + bad + ", " + bad + ")", x.talk(bad, bad), GateSayings.BAD);
            DUE.is("listen(" + bad + ", 0)", x.listen(bad, 0), GateSayings.BAD);
            DUE.is("listen(0, " + bad + ")", x.listen(0, bad), GateSayings.BAD);
        }
        DUE.is("ask(3, 0)", x.ask(3, 0), GateSayings.BAD);
        DUE.is("ask(2, 2)", x.ask(2, 2), GateSayings.BAD);
        DUE.is("talk(0, 3)", x.talk(0, 3), GateSayings.BAD);
        DUE.is("talk(1, 1)", x.talk(1, 1), GateSayings.BAD);
        DUE.is("listen(0, 2)", x.listen(0, 2), GateSayings.BAD);
        DUE.is("listen(1, 1)", x.listen(1, 1), GateSayings.BAD);
        DUE.text("all behind them", Due.stand(x), ahead);
        DUE.is("nothing of it can be undone", x.undo(), GateSayings.NO);
    }

    private static void talking() {
        GateSayings x = Due.laid("g0,0,55555;p03005;p00500;p03005;");
        int[] places = {1, 1, 1, 2, 2, 2, 2, 2, 4, 4, 4, 4, 4, GateSayings.NO, GateSayings.NO};
        String[] says = {
            "02005", "01005", "00005", "00105", "00205", "00305", "00405", "00505",
            "00504", "00503", "00502", "00501", "00500", "00500", "00500",
        };
        for (int i = 0; i < places.length; i++) {
            DUE.is("talk(0, 1), time " + i, x.talk(0, 1), places[i]);
            DUE.person(x, 0, says[i], GateSayings.NONE);
            DUE.person(x, 1, "00500", GateSayings.NONE);
        }
        DUE.is("talk(1, 2)", x.talk(1, 2), 1);
        DUE.person(x, 1, "01500", GateSayings.NONE);
        DUE.is("count(2)", x.count(2), 0);
        DUE.is("count(3)", x.count(3), 0);
    }

    private static void listening() {
        GateSayings x = Due.laid("g1,7,30000;g0,0,10000;g2,9,30000;p00000;");
        int[] places = {0, 0, GateSayings.NO};
        String[] says = {"1,7,20000", "1,7,10000", "1,7,10000"};
        for (int i = 0; i < places.length; i++) {
            DUE.is("listen(0, 1), time " + i, x.listen(0, 1), places[i]);
            DUE.gate(x, 0, says[i]);
            DUE.gate(x, 1, "0,0,10000");
        }
        DUE.is("listen(2, 1): another kind", x.listen(2, 1), 0);
        DUE.gate(x, 2, "2,9,20000");
        DUE.is("listen(1, 2)", x.listen(1, 2), 0);
        DUE.gate(x, 1, "0,0,20000");
    }

    private static void undoing() {
        GateSayings x = Due.laid("g0,9,00000;g0,0,50000;p12000;p12001;");
        String[] stands = new String[5];
        stands[0] = Due.stand(x);
        x.ask(0, 0);
        stands[1] = Due.stand(x);
        x.ask(0, 1);
        stands[2] = Due.stand(x);
        x.talk(1, 0);
        stands[3] = Due.stand(x);
        x.listen(1, 0);
        DUE.gate(x, 1, "0,0,40000");
        for (int left = 3; left >= 0; left--) {
            DUE.is("undo()", x.undo(), left);
            DUE.text("as it stood", Due.stand(x), stands[left]);
        }
        DUE.is("undo() of nothing", x.undo(), GateSayings.NO);
        DUE.text("as it stood", Due.stand(x), stands[0]);
        DUE.person(x, 0, "12000", GateSayings.NONE);
    }

    private static void undoingTheLastEight() {
        GateSayings x = Due.laid("g0,0,00000;p00000;p55500;");
        for (int i = 1; i <= 12; i++) {
            x.talk(0, 1);
            DUE.is("count(7) behind " + i, x.count(7), Math.min(i, 8));
        }
        DUE.person(x, 0, "55200", GateSayings.NONE);
        DUE.is("undo()", x.undo(), 7);
        DUE.is("undo()", x.undo(), 6);
        DUE.person(x, 0, "55000", GateSayings.NONE);
        x.talk(0, 1);
        DUE.is("count(7)", x.count(7), 7);
        String[] says = {"55000", "54000", "53000", "52000", "51000", "50000", "40000"};
        for (int i = 0; i < 7; i++) {
            DUE.is("undo()", x.undo(), 6 - i);
            DUE.person(x, 0, says[i], GateSayings.NONE);
        }
        DUE.is("undo() of the ninth", x.undo(), GateSayings.NO);
        DUE.person(x, 0, "40000", GateSayings.NONE);
    }

    private static void undoingWhatChangedNothing() {
        GateSayings x = Due.laid("g0,0,00000;g0,0,00000;p00000;p00000;p50000;");
        DUE.is("ask(0, 0)", x.ask(0, 0), 1);
        DUE.is("ask(0, 0): all alike", x.ask(0, 0), 1);
        DUE.is("ask(2, 0): shut out", x.ask(2, 0), 0);
        DUE.is("talk(0, 1)", x.talk(0, 1), GateSayings.NO);
        DUE.is("listen(0, 1)", x.listen(0, 1), GateSayings.NO);
        DUE.is("count(7): NO is none of them", x.count(7), 3);
        DUE.is("undo() of who was shut out", x.undo(), 2);
        DUE.is("count(3)", x.count(3), 0);
        DUE.is("undo() of an ask all alike", x.undo(), 1);
        DUE.is("count(2)", x.count(2), 1);
        DUE.is("it is still of gate 0", x.person(0, 5), 0);
        x.seen(0, 0, 1);
        x.heard(0, 0);
        DUE.is("undo()", x.undo(), 0);
        DUE.is("what is seen stays", x.count(5), 1);
        DUE.is("what is heard stays", x.count(6), 1);
        DUE.is("person(0, 5)", x.person(0, 5), GateSayings.NONE);
    }
}
