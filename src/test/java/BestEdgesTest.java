/** Promises 13 to 18, and what the Terms tell of OPENS, BEST, MIDDLE, LESSONS, APART and CROSSES, at its edges. */
public final class BestEdgesTest {
    private static final Due DUE = new Due("BestEdgesTest");
    private static final int BAD = GateSayings.BAD, NO = GateSayings.NO, NONE = GateSayings.NONE;

    public static void main(String[] args) {
        opensNoneAndAll();
        bestOfOneGate();
        bestOfSeveral();
        middleOfOneGate();
        middleOfSeveral();
        partsOfASaying();
        noLessons();
        asManyLessonsAsThereMayBe();
        withWhomFirst();
        lessonsThatThereAreNot();
        apartByNoPlace();
        apartByMostPlaces();
        apartByNone();
        alreadyAlike();
        shutOutOnTheWay();
        atMostSixty();
        alikeNumbers();
        DUE.end();
    }

    private static void opensNoneAndAll() {
        DUE.says("GATES (bits) that would let a PERSON in now.");
        GateSayings x = Due.laid("g0,4,00000;g1,3,00000;g2,5,00000;g3,7,00000;g0,3,00000;p11110;p11111;p00000;p55555;");
        DUE.is("opens(0): as far as the ear lets in", x.opens(0), 1 | 2 | 4);
        DUE.is("opens(1)", x.opens(1), 0);
        DUE.is("opens(2): all", x.opens(2), 31);
        DUE.is("opens(3): none", x.opens(3), 0);
        DUE.says("OPENS, as bits. BAD.");
        DUE.is("opens(4)", x.opens(4), BAD);
        DUE.is("opens(-1)", x.opens(-1), BAD);
        for (int g = 0; g < 5; g++) {
            StringBuilder text = new StringBuilder();
            for (int other = 0; other < 5; other++) {
                text.append(other == g ? "g0,0,12345;" : "g0,0,12344;");
            }
            DUE.is("opens(0): gate " + g + " alone", Due.laid(text + "p12345;").opens(0), 1 << g);
        }
        DUE.is("a talk, and no gate is open", x.talk(2, 3), 0);
        DUE.is("opens(2) now", x.opens(2), 31);
        x.talk(2, 3);
        x.talk(2, 3);
        x.talk(2, 3);
        DUE.is("opens(2) now", x.opens(2), 1 | 2 | 4);
    }

    private static void best(String gates, int many, String says) {
        GateSayings x = Due.laid(gates + "p00000;");
        DUE.is("best(-1) of " + gates, x.best(-1), many);
        for (int k = 0; k < 5; k++) {
            DUE.is("best(" + k + ") of " + gates, x.best(k), says.charAt(k) - '0');
        }
    }

    private static void bestOfOneGate() {
        DUE.says("of all SAYINGS that with which most GATES would let one in now, of several the first (by its SOUNDS,"
            + " place by place): how many; its SOUNDS.");
        best("g0,0,00000;", 1, "00000");
        best("g0,0,55555;", 1, "55555");
        best("g0,1,55555;", 1, "45555");
        best("g0,24,55555;", 1, "00001");
        best("g0,25,55555;", 1, "00000");
        best("g0,40,55555;", 1, "00000");
        best("g1,0,55555;", 1, "05555");
        best("g2,1,00005;", 1, "00005");
        best("g2,2,00005;", 1, "00004");
        best("g3,1,50000;", 1, "50000");
        best("g3,2,50000;", 1, "40000");
        best("g3,40,55555;", 1, "00005");
    }

    private static void bestOfSeveral() {
        best("g0,0,10000;g0,0,01000;", 1, "01000");
        best("g0,0,00001;g0,0,00010;", 1, "00001");
        best("g0,0,00100;g0,0,00011;", 1, "00011");
        best("g0,1,00000;g0,0,00001;g0,0,50000;g0,0,50000;", 2, "00001");
        best("g0,0,50000;g0,0,50000;g0,0,50000;g0,0,50000;g0,0,00000;", 4, "50000");
        best("g0,0,55555;g0,0,55555;g0,0,55555;g0,0,55555;g0,0,55555;", 5, "55555");
        best("g0,5,55555;g0,5,00000;g0,20,00000;", 2, "00000");
        best("g0,5,55555;g0,5,00000;g0,20,05555;", 2, "00000");
        best("g0,5,55555;g0,5,00000;g0,19,05555;", 2, "00001");
    }

    private static void middle(String gates, int far, String says) {
        GateSayings x = Due.laid(gates + "p00000;");
        DUE.is("middle(-1) of " + gates, x.middle(-1), far);
        for (int k = 0; k < 5; k++) {
            DUE.is("middle(" + k + ") of " + gates, x.middle(k), says.charAt(k) - '0');
        }
    }

    private static void middleOfOneGate() {
        DUE.says("of all SAYINGS the one that is least FAR from all GATES together, of several the first: how FAR"
            + " together; its SOUNDS.");
        middle("g0,0,00000;", 0, "00000");
        middle("g0,0,55555;", 0, "55555");
        middle("g1,0,55555;", 0, "05555");
        middle("g2,0,55555;", 0, "55555");
        middle("g3,0,55555;", 0, "55555");
    }

    private static void middleOfSeveral() {
        middle("g0,0,00000;g0,0,55555;", 25, "00000");
        middle("g0,0,55555;g0,0,11111;", 20, "11111");
        middle("g0,0,55555;g0,0,55555;g0,0,00000;", 25, "55555");
        middle("g1,0,55555;g0,0,00000;", 20, "00000");
        middle("g1,0,55555;g1,0,55555;", 0, "05555");
        middle("g2,0,55555;g0,0,00000;", 25, "00005");
        middle("g3,0,55555;g0,0,00000;", 25, "55555");
        middle("g3,0,55555;g3,0,00000;", 50, "00000");
        middle("g3,0,55555;g3,0,55555;g3,0,00000;g3,0,00000;g3,0,33333;", 100, "33333");
        middle("g0,0,55555;g0,0,55555;g0,0,00000;g0,0,00000;", 50, "00000");
        DUE.is("the ear does not matter", Due.laid("g0,40,55555;g0,0,11111;p00000;").middle(0), 1);
    }

    private static void partsOfASaying() {
        DUE.says("how many (k = -1), its SOUND at place k (0 to 4). BAD.");
        DUE.says("how FAR together (k = -1), its SOUND at place k (0 to 4). BAD.");
        GateSayings x = Due.laid("g0,0,12345;p00000;");
        int[] best = {BAD, 1, 1, 2, 3, 4, 5, BAD, BAD};
        int[] middle = {BAD, 0, 1, 2, 3, 4, 5, BAD, BAD};
        for (int k = -2; k <= 6; k++) {
            DUE.is("best(" + k + ")", x.best(k), best[k + 2]);
            DUE.is("middle(" + k + ")", x.middle(k), middle[k + 2]);
        }
    }

    private static void lessons(String town, int p, int g, int many, int first) {
        GateSayings x = Due.laid(town);
        DUE.is("lessons(" + p + ", " + g + ", 0) of " + town, x.lessons(p, g, 0), many);
        DUE.is("lessons(" + p + ", " + g + ", 1) of " + town, x.lessons(p, g, 1), first);
    }

    private static void noLessons() {
        DUE.says("LESSONS: how many (what = 0), with whom first (1; NONE: 0 LESSONS). NONE; BAD.");
        lessons("g0,0,00000;p00000;", 0, 0, 0, NONE);
        lessons("g0,1,00000;p10000;p00000;", 0, 0, 0, NONE);
        lessons("g0,0,00000;p10000;p00000;", 0, 0, 1, 1);
        lessons("g1,0,00000;p50000;p00000;", 0, 0, 0, NONE);
        lessons("g3,2,00000;p00001;p00000;", 0, 0, 0, NONE);
        lessons("g3,1,00000;p00001;p00000;", 0, 0, 1, 1);
        lessons("g0,40,00000;p55555;p00000;p00000;p00000;p00000;p00000;", 0, 0, 0, NONE);
    }

    private static void asManyLessonsAsThereMayBe() {
        DUE.says("the fewest times (0 to 30) that this one has to TALK with others, all else staying, until it would"
            + " be LET IN there");
        lessons("g0,0,55555;p00000;p55555;", 0, 0, 25, 1);
        // 13 talks to 55304, 17 back from there: the last sound is learnt only behind the others.
        lessons("g0,0,00004;p00000;p55304;p00000;", 0, 0, 30, 1);
        lessons("g0,0,00005;p00000;p55305;p00000;", 0, 0, NONE, NONE);
        lessons("g0,1,00005;p00000;p55305;p00000;", 0, 0, 30, 1);
        lessons("g0,0,00005;p00000;p55205;p00000;", 0, 0, 29, 1);
        lessons("g2,0,00005;p00000;p55305;p00000;", 0, 0, NONE, NONE);
        lessons("g2,1,00005;p00000;p55305;p00000;", 0, 0, 30, 1);
        lessons("g2,2,00005;p00000;p55305;p00000;", 0, 0, 29, 1);
        // The other one stays as it is, though it would be met half way.
        lessons("g0,0,20000;p00000;p50000;", 0, 0, 2, 1);
        lessons("g0,0,20000;p00000;p10000;", 0, 0, NONE, NONE);
    }

    private static void withWhomFirst() {
        DUE.says("with whom first, of several the lowest; none.");
        lessons("g0,0,10000;p00000;p10000;p10000;p50000;", 0, 0, 1, 1);
        lessons("g0,0,10000;p00000;p00000;p50000;p10000;", 0, 0, 1, 2);
        lessons("g0,0,10000;p20000;p50000;p00000;p00000;p10000;p10000;", 5, 0, 0, NONE);
        lessons("g0,0,10000;p00000;p00000;p00000;p00000;p00000;p10000;", 0, 0, 1, 5);
        lessons("g0,0,10000;p50000;p00000;p00000;p00000;p00000;p00000;", 5, 0, 1, 0);
        lessons("g0,0,11000;p00000;p00000;p10000;p11000;", 1, 0, 2, 2);
        lessons("g0,0,11000;p01000;p00000;p10000;p11000;", 1, 0, 2, 0);
        lessons("g0,0,11000;p11000;p00000;p10000;p01000;", 1, 0, 2, 0);
        lessons("g0,0,11000;p00000;p00000;p50000;p11000;", 1, 0, 2, 2);
        lessons("g0,0,11000;p00000;p00000;p00000;p11000;", 1, 0, 2, 3);
        lessons("g0,0,01000;p00000;p50000;p01000;p00000;", 0, 0, 1, 2);
    }

    private static void lessonsThatThereAreNot() {
        lessons("g0,0,00000;p10000;", 0, 0, NONE, NONE);
        lessons("g0,0,00000;p10000;p10000;p10000;", 0, 0, NONE, NONE);
        lessons("g0,0,00000;p10000;p11000;p50000;", 0, 0, NONE, NONE);
        lessons("g3,40,00000;p55555;p55555;", 0, 0, NONE, NONE);
        lessons("g3,40,00000;p55555;p55550;", 0, 0, 5, 1);
        GateSayings x = Due.laid("g0,0,00000;g0,0,00000;p10000;p10000;");
        DUE.is("lessons(0, 0, 2)", x.lessons(0, 0, 2), BAD);
        DUE.is("lessons(0, 0, -1)", x.lessons(0, 0, -1), BAD);
        DUE.is("lessons(2, 0, 0)", x.lessons(2, 0, 0), BAD);
        DUE.is("lessons(0, 2, 0)", x.lessons(0, 2, 0), BAD);
        DUE.is("lessons(-1, 0, 0)", x.lessons(-1, 0, 0), BAD);
        DUE.is("lessons(0, -1, 0)", x.lessons(0, -1, 0), BAD);
    }

    private static void apart(String gates, int many, int which) {
        GateSayings x = Due.laid(gates + "p00000;");
        DUE.is("apart(0) of " + gates, x.apart(0), many);
        DUE.is("apart(1) of " + gates, x.apart(1), which);
        DUE.is("apart(2) of " + gates, x.apart(2), BAD);
        DUE.is("apart(-1) of " + gates, x.apart(-1), BAD);
    }

    private static void apartByNoPlace() {
        DUE.says("of sets of places (bits) at which the SOUNDS tell all GATES from one another, that of fewest, of several"
            + " the lowest as bits: how many; which; none.");
        DUE.says("APART: how many (what = 0), which (1; bits). NONE; BAD.");
        apart("g0,0,00000;", 0, 0);
        apart("g3,40,55555;", 0, 0);
    }

    private static void apartByMostPlaces() {
        for (int k = 0; k < 5; k++) {
            String zero = "00000";
            String one = zero.substring(0, k) + "1" + zero.substring(k + 1);
            apart("g0,0,00000;g0,0," + one + ";", 1, 1 << k);
            apart("g0,0," + one + ";g1,0,00000;", 1, 1 << k);
        }
        apart("g0,0,00000;g0,0,11111;", 1, 1);
        apart("g0,0,00000;g0,0,01111;", 1, 2);
        apart("g0,0,00000;g0,0,10000;g0,0,20000;g0,0,30000;g0,0,50000;", 1, 1);
        apart("g0,0,00000;g0,0,00001;g0,0,00002;g0,0,00003;g0,0,00005;", 1, 16);
        apart("g0,0,00000;g0,0,10001;g0,0,01002;g0,0,00103;", 1, 16);
        apart("g0,0,00000;g0,0,01000;g0,0,00100;g0,0,00010;g0,0,00001;", 4, 30);
        apart("g0,0,00000;g0,0,10000;g0,0,00100;g0,0,00010;g0,0,00001;", 4, 29);
        apart("g0,0,11111;g0,0,01111;g0,0,10111;g0,0,11011;g0,0,11101;", 4, 15);
        apart("g0,0,00000;g0,0,00011;g0,0,00110;g0,0,01100;", 2, 12);
    }

    private static void apartByNone() {
        apart("g0,0,00000;g0,0,00000;", NONE, NONE);
        apart("g0,0,00000;g3,40,00000;", NONE, NONE);
        apart("g0,0,00000;g0,0,10000;g0,0,20000;g0,0,30000;g0,0,00000;", NONE, NONE);
        apart("g0,0,10000;g0,0,20000;g0,0,30000;g0,0,00000;g0,0,00000;", NONE, NONE);
        GateSayings x = Due.laid("g0,0,00000;g0,0,00001;p00000;");
        DUE.is("apart(0)", x.apart(0), 1);
        x.listen(0, 1);
        DUE.is("apart(0) when they say it alike", x.apart(0), NONE);
        x.undo();
        DUE.is("apart(1) undone", x.apart(1), 16);
    }

    private static void crosses(String town, int g, int h, int want) {
        DUE.is("crosses(0, " + g + ", " + h + ") of " + town, Due.laid(town).crosses(0, g, h), want);
    }

    private static void alreadyAlike() {
        DUE.says("how often it ASKS until both GATES say it alike (0: they do now; it is tried, nothing changes); none.");
        crosses("g0,0,00000;g0,0,00000;p55555;", 0, 1, 0);
        crosses("g0,0,00000;g3,9,00000;p00000;", 1, 0, 0);
        crosses("g0,40,00000;g0,40,00000;g0,40,00000;g0,40,00001;g0,40,00001;p55555;", 3, 4, 0);
        crosses("g0,40,00000;g0,40,00001;p00001;", 0, 1, 1);
        crosses("g0,40,00000;g0,40,00001;p00000;", 0, 1, 2);
        crosses("g0,40,00000;g0,40,00002;p00000;", 0, 1, 3);
        crosses("g0,40,00000;g0,40,00002;p00000;", 1, 0, 2);
    }

    private static void shutOutOnTheWay() {
        DUE.says("it ASKS at the one, the other, the one .., as long as it is LET IN");
        crosses("g0,0,00000;g0,40,00001;p00001;", 0, 1, NONE);
        crosses("g0,1,00000;g0,40,00001;p00001;", 0, 1, 1);
        crosses("g0,40,00000;g0,0,00002;p00001;", 0, 1, NONE);
        crosses("g0,40,00000;g0,1,00002;p00001;", 1, 0, 2);
        crosses("g0,0,00000;g0,0,00001;p00000;", 0, 1, NONE);
        crosses("g3,1,00000;g0,40,00001;p00001;", 0, 1, NONE);
        crosses("g3,2,00000;g0,40,00001;p00001;", 0, 1, 1);
        // Shut out at the one, it would be let in at the other, which would say it alike then: it is over ahead.
        crosses("g0,0,00001;g0,40,00002;p00000;", 0, 1, NONE);
        crosses("g0,0,00001;g0,40,00002;p00000;", 1, 0, 1);
    }

    /** Longest ways that there are were looked for among all; these end at the last ask, and one behind it. */
    private static void atMostSixty() {
        DUE.says("60 times at most");
        crosses("g0,40,15412;g0,40,45535;p32535;", 0, 1, 60);
        crosses("g0,40,13340;g0,40,23541;p45130;", 0, 1, NONE);
        GateSayings x = Due.laid("g0,40,13340;g0,40,23541;p45130;");
        for (int asked = 0; asked < 60; asked++) {
            DUE.is("apart(0) behind " + asked, x.apart(0) == NONE ? 1 : 0, 0);
            DUE.is("ask " + asked, x.ask(0, asked % 2), 1);
        }
        DUE.is("apart(0) behind 60 asks", x.apart(0) == NONE ? 1 : 0, 0);
        DUE.is("the 61st ask", x.ask(0, 0), 1);
        DUE.is("both gates say it alike behind it", x.apart(0), NONE);
        GateSayings y = Due.laid("g0,40,15412;g0,40,45535;p32535;");
        for (int left = 60; left > 0; left--) {
            DUE.is("crosses with " + left + " left", left % 2 == 0 ? y.crosses(0, 0, 1) : y.crosses(0, 1, 0), left);
            y.ask(0, left % 2);
        }
        DUE.is("crosses with none left", y.crosses(0, 0, 1), 0);
        DUE.is("listen(0, 1)", y.listen(0, 1), NO);
    }

    private static void alikeNumbers() {
        DUE.says("CROSSES. NONE; BAD (alike, too).");
        GateSayings x = Due.laid("g0,40,00000;g0,40,00000;g0,40,11111;p00000;p11111;");
        for (int g = -1; g <= 3; g++) {
            DUE.is("crosses(0, " + g + ", " + g + ")", x.crosses(0, g, g), BAD);
            DUE.is("crosses(1, " + g + ", 3)", x.crosses(1, g, 3), BAD);
            DUE.is("crosses(1, 3, " + g + ")", x.crosses(1, 3, g), BAD);
            DUE.is("crosses(1, " + g + ", -1)", x.crosses(1, g, -1), BAD);
            DUE.is("crosses(1, -1, " + g + ")", x.crosses(1, -1, g), BAD);
        }
        DUE.is("crosses(2, 0, 1)", x.crosses(2, 0, 1), BAD);
        DUE.is("crosses(-1, 0, 1)", x.crosses(-1, 0, 1), BAD);
        DUE.is("crosses(1, 0, 1)", x.crosses(1, 0, 1), 0);
    }
}
