/** Promises 13 to 18: opens, best, middle, lessons, apart, crosses. */
public final class BestTest {
    private static final Due DUE = new Due("BestTest");
    private static final int NONE = GateSayings.NONE;

    public static void main(String[] args) {
        opening();
        bestSayings();
        middleSayings();
        lessonsThatThereAre();
        lessonsThatThereAreNot();
        tellingApart();
        crossing();
        badNumbers();
        DUE.end();
    }

    private static void opening() {
        GateSayings x = Due.laid("g0,3,00000;g1,2,00000;g2,3,00000;g3,6,00000;g3,5,00000;p10011;p00003;p30000;");
        DUE.is("opens(0)", x.opens(0), 1 | 2 | 8);
        DUE.is("opens(1)", x.opens(1), 1 | 8);
        DUE.is("opens(2)", x.opens(2), 1 | 2 | 4 | 8);
        x.ask(2, 0);
        DUE.person(x, 2, "20000", 0);
        DUE.is("opens(2) then", x.opens(2), 31);
        GateSayings y = Due.laid("g0,0,00000;p10000;");
        DUE.is("opens(0): none", y.opens(0), 0);
    }

    private static void best(String town, int many, String says) {
        GateSayings x = Due.laid(town);
        String ahead = Due.stand(x);
        DUE.is("best(-1) of " + town, x.best(-1), many);
        for (int k = 0; k < 5; k++) {
            DUE.is("best(" + k + ") of " + town, x.best(k), says.charAt(k) - '0');
        }
        DUE.text("all behind best", Due.stand(x), ahead);
    }

    private static void bestSayings() {
        best("g0,0,55555;p00000;", 1, "55555");
        best("g0,1,55555;p00000;", 1, "45555");
        best("g1,0,55555;p00000;", 1, "05555");
        best("g2,1,00555;p00000;", 1, "00455");
        best("g2,1,00005;p00000;", 1, "00005");
        best("g2,2,00005;p00000;", 1, "00004");
        best("g3,1,20000;p00000;", 1, "20000");
        best("g3,3,20000;p00000;", 1, "10000");
        best("g0,2,00001;g0,2,00005;p00000;", 2, "00003");
        best("g0,2,00001;g0,1,00005;p00000;", 1, "00000");
        best("g0,0,30000;g0,0,20000;g0,0,20000;p00000;", 2, "20000");
        best("g0,0,20000;g0,0,30000;g0,0,30000;p00000;", 2, "30000");
        best("g0,0,20000;g0,0,30000;p00000;", 1, "20000");
        best("g0,40,55555;g3,40,44444;g0,25,55555;p00000;", 3, "00000");
        best("g0,40,55555;g3,39,44444;g0,25,55555;p00000;", 3, "00001");
        best("g0,5,50000;g0,5,05000;g0,5,00500;g0,5,00050;g0,5,00005;p00000;", 5, "00000");
        GateSayings x = Due.laid("g0,0,20000;g0,0,30000;p00000;");
        x.listen(0, 1);
        DUE.is("best(-1) when they say it alike", x.best(-1), 2);
        DUE.is("best(0) when they say it alike", x.best(0), 3);
    }

    private static void middle(String town, int together, String says) {
        GateSayings x = Due.laid(town);
        String ahead = Due.stand(x);
        DUE.is("middle(-1) of " + town, x.middle(-1), together);
        for (int k = 0; k < 5; k++) {
            DUE.is("middle(" + k + ") of " + town, x.middle(k), says.charAt(k) - '0');
        }
        DUE.text("all behind middle", Due.stand(x), ahead);
    }

    private static void middleSayings() {
        middle("g0,0,54321;p00000;", 0, "54321");
        middle("g1,0,54321;p00000;", 0, "04321");
        middle("g0,0,01000;g0,0,04002;p00000;", 5, "01000");
        middle("g0,0,10000;g0,0,50000;g0,0,30000;p00000;", 4, "30000");
        middle("g2,0,00005;g0,0,00000;p00000;", 5, "00005");
        middle("g0,0,00005;g2,0,00000;p00000;", 5, "00000");
        middle("g2,0,50000;g0,0,00000;p00000;", 5, "00000");
        middle("g1,0,50000;g0,0,30000;p00000;", 0, "30000");
        middle("g3,0,55555;g0,0,00000;p00000;", 25, "55555");
        middle("g3,0,12345;g2,0,00000;g1,0,55555;p00000;", 10 + 3 + 2 + 1 + 10, "12345");
        GateSayings x = Due.laid("g0,0,10000;p00000;");
        DUE.is("middle(0)", x.middle(0), 1);
    }

    private static void lessons(String town, int p, int g, int many, int first) {
        GateSayings x = Due.laid(town);
        String ahead = Due.stand(x);
        DUE.is("lessons(" + p + ", " + g + ", 0) of " + town, x.lessons(p, g, 0), many);
        DUE.is("lessons(" + p + ", " + g + ", 1) of " + town, x.lessons(p, g, 1), first);
        DUE.text("all behind lessons", Due.stand(x), ahead);
    }

    private static void lessonsThatThereAre() {
        lessons("g0,0,00000;p00000;p11111;", 0, 0, 0, NONE);
        lessons("g0,1,00000;p10000;p00000;", 0, 0, 0, NONE);
        lessons("g0,0,00000;p10000;p00000;", 0, 0, 1, 1);
        lessons("g0,0,00000;p00000;p10000;", 1, 0, 1, 0);
        lessons("g0,0,00000;p30000;p00000;p10000;", 0, 0, 3, 1);
        lessons("g0,0,00000;p30000;p10000;p00000;", 0, 0, 3, 1);
        lessons("g0,0,00000;p30000;p50000;p10000;p00000;", 0, 0, 3, 2);
        lessons("g0,0,00000;p00000;p20000;p30000;", 2, 0, 3, 0);
        lessons("g1,0,00000;p51000;p50000;p00000;", 0, 0, 1, 1);
        lessons("g0,2,00000;p00005;p00000;", 0, 0, 3, 1);
        lessons("g3,2,00000;p00003;p00000;", 0, 0, 2, 1);
        lessons("g0,0,55555;p00000;p55555;", 0, 0, 25, 1);
        lessons("g0,0,55555;g0,0,11000;p00000;p55555;p11000;", 0, 1, 2, 1);
    }

    /** Only at 5530_ is the last sound learnt, and then all the others must be unlearnt. */
    private static void lessonsThatThereAreNot() {
        lessons("g0,0,00004;p00000;p55304;p00000;", 0, 0, 30, 1);
        lessons("g0,0,00004;p00000;p00000;p55304;", 0, 0, 30, 2);
        lessons("g0,0,00005;p00000;p55305;p00000;", 0, 0, NONE, NONE);
        lessons("g0,1,00005;p00000;p55305;p00000;", 0, 0, 30, 1);
        lessons("g0,0,00000;p10000;", 0, 0, NONE, NONE);
        lessons("g0,0,00000;p10000;p10000;", 0, 0, NONE, NONE);
        lessons("g0,0,00000;p10000;p50000;", 0, 0, NONE, NONE);
    }

    private static void apart(String gates, int many, int which) {
        GateSayings x = Due.laid(gates + "p00000;");
        DUE.is("apart(0) of " + gates, x.apart(0), many);
        DUE.is("apart(1) of " + gates, x.apart(1), which);
    }

    private static void tellingApart() {
        apart("g0,0,00000;", 0, 0);
        apart("g0,0,00000;g1,0,00000;", NONE, NONE);
        apart("g0,0,00000;g0,0,00001;g0,0,00000;", NONE, NONE);
        apart("g0,0,00000;g0,0,11000;", 1, 1);
        apart("g0,0,00000;g0,0,00101;", 1, 4);
        apart("g0,0,00000;g1,0,10000;", 1, 1);
        apart("g0,0,00000;g0,0,10000;g0,0,01000;", 2, 3);
        apart("g0,0,00012;g0,0,10010;g0,0,01013;", 1, 16);
        apart("g0,0,00000;g0,0,10000;g0,0,01000;g0,0,00100;", 3, 7);
        apart("g0,0,00000;g0,0,01000;g0,0,00010;g0,0,00001;", 3, 26);
        apart("g0,0,00000;g0,0,10000;g0,0,01000;g0,0,00100;g0,0,00010;", 4, 15);
        apart("g0,0,00000;g0,0,00001;g0,0,00100;g0,0,11101;", 2, 20);
    }

    private static void crosses(String town, int g, int h, int want) {
        GateSayings x = Due.laid(town);
        String ahead = Due.stand(x);
        DUE.is("crosses(0, " + g + ", " + h + ") of " + town, x.crosses(0, g, h), want);
        DUE.text("all behind crosses", Due.stand(x), ahead);
    }

    private static void crossing() {
        crosses("g0,0,00000;g0,0,00000;p55555;", 0, 1, 0);
        crosses("g0,0,00000;g0,0,00001;p55555;", 0, 1, NONE);
        crosses("g0,40,00000;g0,40,00001;p00001;", 0, 1, 1);
        crosses("g0,40,00000;g0,40,00001;p00000;", 0, 1, 2);
        crosses("g0,40,00000;g0,40,00001;p00000;", 1, 0, 1);
        crosses("g0,40,00000;g0,0,00002;p00000;", 1, 0, NONE);
        crosses("g0,40,00000;g0,0,00003;p00001;", 0, 1, NONE);
        GateSayings x = Due.laid("g0,40,00000;g0,40,00002;p00000;");
        DUE.is("crosses(0, 0, 1)", x.crosses(0, 0, 1), 3);
        x.listen(1, 0);
        DUE.is("crosses(0, 0, 1) as all stands now", x.crosses(0, 0, 1), 2);
        Due.write(x, "x");
        x.fault();
        DUE.is("crosses(0, 0, 1) again", x.crosses(0, 0, 1), 2);
        crosses("g0,40,15412;g0,40,45535;p32535;", 0, 1, 60);
        // Both gates would say it alike behind the 61st.
        crosses("g0,40,13340;g0,40,23541;p45130;", 0, 1, NONE);
    }

    private static void badNumbers() {
        GateSayings x = Due.laid("g0,40,00000;g0,40,00001;p00000;p11111;p22222;");
        for (int bad : Due.NEVER) {
            DUE.is("opens(" + bad + ")", x.opens(bad), GateSayings.BAD);
            if (bad != -1) {
                DUE.is("best(" + bad + ")", x.best(bad), GateSayings.BAD);
                DUE.is("middle(" + bad + ")", x.middle(bad), GateSayings.BAD);
            }
            DUE.is("lessons(" + bad + ", 0, 0)", x.lessons(bad, 0, 0), GateSayings.BAD);
            DUE.is("lessons(0, " + bad + ", 0)", x.lessons(0, bad, 0), GateSayings.BAD);
            DUE.is("lessons(0, 0, " + bad + ")", x.lessons(0, 0, bad), GateSayings.BAD);
            DUE.is("apart(" + bad + ")", x.apart(bad), GateSayings.BAD);
            DUE.is("crosses(" + bad + ", 0, 1)", x.crosses(bad, 0, 1), GateSayings.BAD);
            DUE.is("crosses(0, " + bad + ", 1)", x.crosses(0, bad, 1), GateSayings.BAD);
            DUE.is("crosses(0, 0, " + bad + ")", x.crosses(0, 0, bad), GateSayings.BAD);
        }
        DUE.is("opens(3)", x.opens(3), GateSayings.BAD);
        DUE.is("best(5)", x.best(5), GateSayings.BAD);
        DUE.is("middle(5)", x.middle(5), GateSayings.BAD);
        DUE.is("lessons(3, 0, 0)", x.lessons(3, 0, 0), GateSayings.BAD);
        DUE.is("lessons(0, 2, 0)", x.lessons(0, 2, 0), GateSayings.BAD);
        DUE.is("lessons(0, 0, 2)", x.lessons(0, 0, 2), GateSayings.BAD);
        DUE.is("apart(2)", x.apart(2), GateSayings.BAD);
        DUE.is("crosses(3, 0, 1)", x.crosses(3, 0, 1), GateSayings.BAD);
        DUE.is("crosses(0, 2, 1)", x.crosses(0, 2, 1), GateSayings.BAD);
        DUE.is("crosses(0, 1, 1)", x.crosses(0, 1, 1), GateSayings.BAD);
    }
}
