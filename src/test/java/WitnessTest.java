/** Promises 19 to 25: seen, kinds, ears, heard, from, nearest, forget. */
public final class WitnessTest {
    private static final Due DUE = new Due("WitnessTest");
    private static final int NONE = GateSayings.NONE;

    public static void main(String[] args) {
        seeing();
        kindsByWhatIsSeen();
        earsByWhatIsSeen();
        asAllStandsWhenAsked();
        hearing();
        whereAStrangerIsFrom();
        forgetting();
        badNumbers();
        DUE.end();
    }

    private static void seeing() {
        GateSayings x = new GateSayings();
        for (int i = 1; i <= 6; i++) {
            DUE.is("seen(0, 0, 1), time " + i, x.seen(0, 0, 1), i);
            DUE.is("count(5)", x.count(5), i);
        }
        DUE.is("seen(0, 0, 1) once more", x.seen(0, 0, 1), GateSayings.FULL);
        DUE.is("seen(0, 0, 2) once more", x.seen(0, 0, 2), GateSayings.BAD);
        DUE.is("count(5)", x.count(5), 6);
        DUE.is("kinds(0)", x.kinds(0), 15);
    }

    /** Far by kind: PLAIN 7, COUGHING 5, LONG 9, SUNG 14. */
    private static void kindsByWhatIsSeen() {
        int[] due = {0, 2, 2, 3, 3, 7, 7, 7, 7, 7, 15, 15};
        int[] ears = {4, 5, 6, 7, 8, 9, 10, 11, 12, 13, 14, 40};
        for (int i = 0; i < ears.length; i++) {
            for (int kind = 0; kind < 4; kind++) {
                GateSayings x = Due.laid("g0,0,55555;g" + kind + "," + ears[i] + ",00000;p20302;");
                DUE.is("kinds(1) of nothing seen", x.kinds(1), 15);
                x.seen(0, 1, 1);
                DUE.is("kinds(1), ear " + ears[i], x.kinds(1), due[i]);
                DUE.is("kinds(0): not seen there", x.kinds(0), 15);
                x.forget();
                x.seen(0, 1, 0);
                DUE.is("kinds(1) if not let in, ear " + ears[i], x.kinds(1), 15 - due[i]);
                x.seen(0, 1, 1);
                DUE.is("kinds(1) of both", x.kinds(1), 0);
                DUE.is("gate(1, 5) stays", x.gate(1, 5), kind);
            }
        }
    }

    private static void ears(GateSayings x, int g, int many, int least) {
        DUE.is("ears(" + g + ", 0)", x.ears(g, 0), many);
        DUE.is("ears(" + g + ", 1)", x.ears(g, 1), least);
    }

    private static void earsByWhatIsSeen() {
        GateSayings x = Due.laid("g0,9,00000;g3,0,00000;g3,40,55555;p20302;p00001;p00000;");
        ears(x, 0, 41, 0);
        x.seen(0, 0, 1);
        ears(x, 0, 34, 7);
        ears(x, 1, 41, 0);
        x.seen(0, 0, 0);
        ears(x, 0, 0, NONE);
        x.forget();
        x.seen(0, 1, 0);
        ears(x, 1, 14, 0);
        x.seen(1, 1, 1);
        ears(x, 1, 12, 2);
        x.forget();
        x.seen(2, 2, 0);
        ears(x, 2, 41, 0);
        x.seen(2, 2, 1);
        ears(x, 2, 0, NONE);
        x.forget();
        x.seen(2, 0, 0);
        ears(x, 0, 0, NONE);
        DUE.is("gate(0, 6) stays", x.gate(0, 6), 9);
        GateSayings y = Due.laid("g3,0,00000;p00000;p55550;p55551;");
        y.seen(1, 0, 1);
        ears(y, 0, 1, 40);
        y.forget();
        y.seen(2, 0, 1);
        ears(y, 0, 0, NONE);
    }

    private static void asAllStandsWhenAsked() {
        GateSayings x = Due.laid("g0,2,00000;g0,0,00005;p00004;p00000;");
        x.seen(0, 0, 1);
        DUE.is("kinds(0)", x.kinds(0), 0);
        ears(x, 0, 37, 4);
        x.talk(0, 1);
        ears(x, 0, 38, 3);
        x.talk(0, 1);
        DUE.is("kinds(0) by what the person says now", x.kinds(0), 1 | 2);
        x.listen(0, 1);
        ears(x, 0, 40, 1);
        DUE.is("kinds(0) by what the gate says now", x.kinds(0), 15);
        x.undo();
        DUE.is("kinds(0) undone", x.kinds(0), 1 | 2);
    }

    private static void hearing() {
        GateSayings x = new GateSayings();
        for (int i = 1; i <= 8; i++) {
            DUE.is("heard(0, 0), time " + i, x.heard(0, 0), i);
            DUE.is("count(6)", x.count(6), i);
        }
        DUE.is("heard(0, 0) once more", x.heard(0, 0), GateSayings.FULL);
        DUE.is("heard(0, 6) once more", x.heard(0, 6), GateSayings.BAD);
        DUE.is("count(6)", x.count(6), 8);
        DUE.is("from()", x.from(), 1 | 4);
    }

    private static void stranger(GateSayings x, int from, int nearest, int misses) {
        DUE.is("from()", x.from(), from);
        DUE.is("nearest(0)", x.nearest(0), nearest);
        DUE.is("nearest(1)", x.nearest(1), misses);
    }

    private static void whereAStrangerIsFrom() {
        GateSayings x = Due.laid("g0,0,12345;g3,0,12344;g0,0,02345;g0,0,12344;p00000;");
        stranger(x, 15, 0, 0);
        x.heard(1, 2);
        stranger(x, 15, 0, 0);
        x.heard(4, 4);
        stranger(x, 10, 1, 0);
        x.heard(0, 0);
        stranger(x, 0, 1, 1);
        x.heard(0, 0);
        stranger(x, 0, 2, 1);
        x.heard(4, 5);
        stranger(x, 0, 2, 1);
        x.heard(0, 1);
        stranger(x, 0, 2, 2);
        x.heard(0, 1);
        stranger(x, 0, 0, 3);
        GateSayings none = Due.laid("g0,0,00000;g0,0,00001;p00000;");
        for (int i = 0; i < 8; i++) {
            none.heard(i % 5, 5);
        }
        stranger(none, 0, 0, 8);
        GateSayings y = Due.laid("g0,0,00000;g0,0,00001;p00000;");
        y.heard(4, 1);
        stranger(y, 2, 1, 0);
        y.listen(0, 1);
        stranger(y, 3, 0, 0);
        y.undo();
        stranger(y, 2, 1, 0);
        y.heard(0, 5);
        stranger(y, 0, 1, 1);
    }

    private static void forgetting() {
        GateSayings x = new GateSayings();
        DUE.is("forget() of nothing", x.forget(), 0);
        x.seen(0, 0, 0);
        x.seen(1, 0, 0);
        x.heard(0, 5);
        DUE.is("kinds(0)", x.kinds(0), 0);
        DUE.is("forget()", x.forget(), 3);
        DUE.is("count(5)", x.count(5), 0);
        DUE.is("count(6)", x.count(6), 0);
        DUE.is("kinds(0)", x.kinds(0), 15);
        ears(x, 0, 41, 0);
        DUE.is("from()", x.from(), 15);
        DUE.is("forget() again", x.forget(), 0);
        DUE.is("seen(0, 0, 0)", x.seen(0, 0, 0), 1);
        DUE.is("heard(0, 0)", x.heard(0, 0), 1);
    }

    private static void badNumbers() {
        GateSayings x = new GateSayings();
        String ahead = Due.stand(x);
        for (int bad : Due.NEVER) {
            DUE.is("seen(" + bad + ", 0, 0)", x.seen(bad, 0, 0), GateSayings.BAD);
            DUE.is("seen(0, " + bad + ", 0)", x.seen(0, bad, 0), GateSayings.BAD);
            DUE.is("seen(0, 0, " + bad + ")", x.seen(0, 0, bad), GateSayings.BAD);
            DUE.is("kinds(" + bad + ")", x.kinds(bad), GateSayings.BAD);
            DUE.is("ears(" + bad + ", 0)", x.ears(bad, 0), GateSayings.BAD);
            DUE.is("ears(0, " + bad + ")", x.ears(0, bad), GateSayings.BAD);
            DUE.is("heard(" + bad + ", 0)", x.heard(bad, 0), GateSayings.BAD);
            DUE.is("heard(0, " + bad + ")", x.heard(0, bad), GateSayings.BAD);
            DUE.is("nearest(" + bad + ")", x.nearest(bad), GateSayings.BAD);
        }
        DUE.is("seen(4, 0, 0)", x.seen(4, 0, 0), GateSayings.BAD);
        DUE.is("seen(0, 4, 0)", x.seen(0, 4, 0), GateSayings.BAD);
        DUE.is("seen(0, 0, 2)", x.seen(0, 0, 2), GateSayings.BAD);
        DUE.is("kinds(4)", x.kinds(4), GateSayings.BAD);
        DUE.is("ears(4, 0)", x.ears(4, 0), GateSayings.BAD);
        DUE.is("ears(0, 2)", x.ears(0, 2), GateSayings.BAD);
        DUE.is("heard(5, 0)", x.heard(5, 0), GateSayings.BAD);
        DUE.is("heard(0, 6)", x.heard(0, 6), GateSayings.BAD);
        DUE.is("nearest(2)", x.nearest(2), GateSayings.BAD);
        DUE.text("all behind them", Due.stand(x), ahead);
    }
}
