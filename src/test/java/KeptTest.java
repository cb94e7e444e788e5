/** Promises 28 to 30: keep, back, count. */
public final class KeptTest {
    private static final Due DUE = new Due("KeptTest");

    public static void main(String[] args) {
        keepingTwo();
        goingBack();
        whatIsNotKept();
        keepingAndUndoing();
        counting();
        DUE.end();
    }

    private static void keepingTwo() {
        GateSayings x = new GateSayings();
        DUE.is("back() of nothing", x.back(), GateSayings.NO);
        DUE.is("keep()", x.keep(), 1);
        DUE.is("count(8)", x.count(8), 1);
        DUE.is("keep() again", x.keep(), 2);
        DUE.is("keep() of a third", x.keep(), GateSayings.FULL);
        DUE.is("count(8)", x.count(8), 2);
        DUE.is("back()", x.back(), 1);
        DUE.is("keep()", x.keep(), 2);
        DUE.is("back()", x.back(), 1);
        DUE.is("back()", x.back(), 0);
        DUE.is("back()", x.back(), GateSayings.NO);
    }

    private static void goingBack() {
        GateSayings x = Due.laid("g0,9,00000;g0,0,50000;p12000;p12001;");
        x.keep();
        x.ask(0, 0);
        x.ask(0, 1);
        x.keep();
        x.talk(1, 0);
        x.listen(1, 0);
        x.ask(1, 0);
        x.keep();
        DUE.is("back()", x.back(), 1);
        DUE.gate(x, 0, "0,9,01000");
        DUE.gate(x, 1, "0,0,50000");
        DUE.person(x, 0, "02000", 0);
        DUE.person(x, 1, "12001", GateSayings.NONE);
        int[] once = {2, 2, 1, 1, 1, 0, 0, 0, 1, 36};
        for (int what = 0; what < 10; what++) {
            DUE.is("count(" + what + ")", x.count(what), once[what]);
        }
        DUE.is("back()", x.back(), 0);
        DUE.gate(x, 0, "0,9,00000");
        DUE.person(x, 0, "12000", GateSayings.NONE);
        int[] twice = {2, 2, 0, 0, 0, 0, 0, 0, 0, 36};
        for (int what = 0; what < 10; what++) {
            DUE.is("count(" + what + ")", x.count(what), twice[what]);
        }
    }

    private static void whatIsNotKept() {
        GateSayings x = new GateSayings();
        Due.write(x, "abc");
        x.seen(0, 0, 1);
        x.keep();
        x.write('d');
        x.seen(1, 0, 0);
        x.heard(0, 0);
        DUE.is("back()", x.back(), 0);
        DUE.is("count(5)", x.count(5), 2);
        DUE.is("count(6)", x.count(6), 1);
        DUE.is("count(9)", x.count(9), 4);
        x.keep();
        x.forget();
        x.wipe();
        x.back();
        DUE.is("count(5)", x.count(5), 0);
        DUE.is("count(6)", x.count(6), 0);
        DUE.is("count(9)", x.count(9), 0);
    }

    private static void keepingAndUndoing() {
        GateSayings x = Due.laid("g0,0,00000;p00000;p55555;");
        x.talk(0, 1);
        x.keep();
        DUE.is("count(7) behind keep", x.count(7), 1);
        x.talk(0, 1);
        DUE.is("undo()", x.undo(), 1);
        DUE.is("undo() past what is kept", x.undo(), 0);
        DUE.person(x, 0, "00000", GateSayings.NONE);
        DUE.is("count(8)", x.count(8), 1);
        x.talk(1, 0);
        DUE.is("back()", x.back(), 0);
        DUE.person(x, 0, "10000", GateSayings.NONE);
        DUE.person(x, 1, "55555", GateSayings.NONE);
        DUE.is("count(7)", x.count(7), 0);
        DUE.is("undo() behind back", x.undo(), GateSayings.NO);
        DUE.is("back()", x.back(), GateSayings.NO);
        x.talk(0, 1);
        DUE.is("back() that is NO", x.back(), GateSayings.NO);
        DUE.is("undo() behind a back that is NO", x.undo(), 0);
    }

    private static void counting() {
        GateSayings x = Due.laid("g0,0,00000;g0,40,00000;g0,40,00000;p00000;p55555;p33333;p44444;");
        x.ask(0, 0);
        x.ask(0, 1);
        x.ask(1, 0);
        x.ask(2, 2);
        x.ask(1, 0);
        x.ask(3, 0);
        x.talk(0, 1);
        x.seen(0, 0, 1);
        x.seen(0, 0, 1);
        x.heard(0, 0);
        x.keep();
        x.write('p');
        int[] due = {3, 4, 3, 3, 2, 2, 1, 7, 1, 64};
        for (int what = 0; what < 10; what++) {
            DUE.is("count(" + what + ")", x.count(what), due[what]);
        }
        for (int bad : Due.NEVER) {
            if (bad != 7) {
                DUE.is("count(" + bad + ")", x.count(bad), GateSayings.BAD);
            }
        }
        DUE.is("count(10)", x.count(10), GateSayings.BAD);
    }
}
