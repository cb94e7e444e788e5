/** Promises 26 and 27, and what the Terms tell of LIKELY and of a YEAR, at its edges. */
public final class ChanceEdgesTest {
    private static final Due DUE = new Due("ChanceEdgesTest");
    private static final int BAD = GateSayings.BAD;
    private static final String OPEN = "g0,40,00000;p00000;";
    private static final String SHUT = "g3,40,00000;p55555;";

    public static void main(String[] args) {
        neverAndAlwaysWrong();
        behindFiveComesNought();
        eachForItself();
        inLowestTerms();
        partsOfAChance();
        timesOfAYear();
        leastAndGreatestDraw();
        onePersonAlone();
        behindTheLastTheFirst();
        fromNowOn();
        nothingChangesByIt();
        numbersOfAYear();
        DUE.end();
    }

    private static void likely(String town, int x, int above, int below) {
        GateSayings it = Due.laid(town);
        DUE.is("likely(0, 0, " + x + ", 0) of " + town, it.likely(0, 0, x, 0), above);
        DUE.is("likely(0, 0, " + x + ", 1) of " + town, it.likely(0, 0, x, 1), below);
    }

    private static void neverAndAlwaysWrong() {
        DUE.says("each of its five SOUNDS is by x (0 to 10) of ten, for itself, HEARD 1 more");
        likely("g0,0,12345;p12345;", 0, 1, 1);
        likely("g0,0,12345;p12344;", 0, 0, 1);
        likely("g0,0,12345;p12345;", 10, 0, 1);
        likely("g0,0,12345;p01234;", 10, 1, 1);
        likely("g0,0,12345;p01234;", 0, 0, 1);
        likely("g0,4,00000;p00000;", 10, 0, 1);
        likely("g0,5,00000;p00000;", 10, 1, 1);
        likely("g1,4,00000;p00000;", 10, 1, 1);
        likely("g2,5,00000;p00000;", 10, 0, 1);
        likely("g2,6,00000;p00000;", 10, 1, 1);
        likely("g3,9,00000;p00000;", 10, 0, 1);
        likely("g3,10,00000;p00000;", 10, 1, 1);
    }

    private static void behindFiveComesNought() {
        DUE.says("(behind 5 comes 0)");
        likely("g0,0,00000;p55555;", 10, 1, 1);
        likely("g0,0,50505;p45454;", 10, 1, 1);
        likely("g0,0,50505;p45454;", 0, 0, 1);
        likely("g0,0,50505;p45454;", 5, 1, 32);
        likely("g0,2,50505;p45454;", 5, 7, 32);
        likely("g0,3,50505;p45454;", 5, 1, 4);
        likely("g0,0,50505;p45454;", 9, 59049, 100000);
        likely("g0,3,01111;p50000;", 10, 1, 1);
        likely("g0,0,01111;p50000;", 10, 1, 1);
        for (int k = 0; k < 5; k++) {
            String zero = "00000";
            likely("g0,0,00000;p" + zero.substring(0, k) + "5" + zero.substring(k + 1) + ";", 1, 6561, 100000);
            likely("g0,0," + zero.substring(0, k) + "5" + zero.substring(k + 1) + ";p00000;", 1, 0, 1);
        }
    }

    private static void eachForItself() {
        DUE.says("for itself, HEARD 1 more");
        likely("g0,0,11111;p00000;", 1, 1, 100000);
        likely("g0,0,11111;p00000;", 9, 59049, 100000);
        likely("g0,0,00000;p00000;", 9, 1, 100000);
        likely("g0,0,00000;p00000;", 1, 59049, 100000);
        likely("g0,1,00000;p00000;", 1, (59049 + 5 * 6561) / 2, 50000);
        likely("g0,4,00000;p00000;", 1, 99999, 100000);
        likely("g0,0,10000;p00000;", 3, 3 * 7 * 7 * 7 * 7, 100000);
        likely("g0,0,00011;p00000;", 3, 7 * 7 * 7 * 3 * 3, 100000);
    }

    private static void inLowestTerms() {
        DUE.says("how likely it would be LET IN now, in lowest terms.");
        likely("g0,0,00000;p00000;", 5, 1, 32);
        likely("g0,0,00000;p00000;", 2, 1024, 3125);
        likely("g0,0,00000;p00000;", 8, 1, 3125);
        likely("g0,0,00000;p00000;", 6, 32, 3125);
        likely("g0,1,00000;p00000;", 5, 3, 16);
        likely("g1,0,00000;p00000;", 2, 256, 625);
        likely("g1,0,00000;p00000;", 5, 1, 16);
        likely("g0,40,00000;p00000;", 7, 1, 1);
        likely("g0,0,33333;p00000;", 7, 0, 1);
    }

    private static void partsOfAChance() {
        DUE.says("LIKELY: above (part = 0), below (1). BAD.");
        GateSayings x = Due.laid("g0,0,00000;g0,0,11111;p00000;p11111;");
        DUE.is("likely(1, 1, 0, 0)", x.likely(1, 1, 0, 0), 1);
        DUE.is("likely(1, 0, 0, 0)", x.likely(1, 0, 0, 0), 0);
        DUE.is("likely(0, 1, 10, 1)", x.likely(0, 1, 10, 1), 1);
        DUE.is("likely(0, 0, 0, 2)", x.likely(0, 0, 0, 2), BAD);
        DUE.is("likely(0, 0, 0, -1)", x.likely(0, 0, 0, -1), BAD);
        DUE.is("likely(0, 0, 11, 0)", x.likely(0, 0, 11, 0), BAD);
        DUE.is("likely(0, 0, -1, 0)", x.likely(0, 0, -1, 0), BAD);
        DUE.is("likely(2, 0, 0, 0)", x.likely(2, 0, 0, 0), BAD);
        DUE.is("likely(-1, 0, 0, 0)", x.likely(-1, 0, 0, 0), BAD);
        DUE.is("likely(0, 2, 0, 0)", x.likely(0, 2, 0, 0), BAD);
        DUE.is("likely(0, -1, 0, 0)", x.likely(0, -1, 0, 0), BAD);
    }

    private static int draw(int z, int time) {
        long x = 7919L * z + 6151L * time + 1;
        return (int) (x * x % 65521 / 2);
    }

    private static void year(GateSayings x, int z, int n, int in, int out, int settled) {
        DUE.is("year(" + z + ", " + n + ", 0)", x.year(z, n, 0), in);
        DUE.is("year(" + z + ", " + n + ", 1)", x.year(z, n, 1), out);
        DUE.is("year(" + z + ", " + n + ", 2)", x.year(z, n, 2), settled);
    }

    /** One person at one gate, that is always open, or never: it asks at each time but every fourth or so. */
    private static void timesOfAYear() {
        DUE.says("A YEAR by z (0 to 9999) of n (1 to 60) times from now on");
        DUE.says("if (DRAW by 64, cut) modulo 4 is not 0");
        DUE.says("DRAW being ((x times x) modulo 65521) by 2, cut, x 7919 z, 6151 (the time, 0 first) and 1 together");
        for (int z : new int[] {0, 1, 5000, 9998, 9999}) {
            int asks = 0;
            for (int n = 1; n <= 60; n++) {
                asks += draw(z, n - 1) / 64 % 4 != 0 ? 1 : 0;
                if (n <= 3 || n >= 58 || n % 10 == 0) {
                    year(Due.laid(OPEN), z, n, asks, 0, asks > 0 ? 1 : 0);
                    year(Due.laid(SHUT), z, n, 0, asks, 0);
                }
            }
        }
        year(Due.laid(OPEN), 0, 60, 43, 0, 1);
        year(Due.laid(OPEN), 9999, 60, 46, 0, 1);
        year(Due.laid(SHUT), 5, 60, 0, 40, 0);
    }

    private static void leastAndGreatestDraw() {
        DUE.says("in each PERSON DRAW modulo as many ASKS at GATE (DRAW by 8, cut) modulo as many");
        // Year 0 begins with the draw 0: person 0 talks with 1, and is at gate 0 then or not by whom it met.
        year(Due.laid("g0,0,00000;p00000;p11111;"), 0, 1, 0, 0, 0);
        // Year 8580 begins with 7, 4501 with 8: by 64, cut, 0.
        year(Due.laid(OPEN), 8580, 1, 0, 0, 0);
        year(Due.laid(OPEN), 4501, 1, 0, 0, 0);
        // Year 3653 begins with 32759, that is 5 modulo 6; 4094 by 8, cut, that is 4 modulo 5; 511 by 64, cut.
        String others = "g0,0,11111;g0,0,11111;g0,0,11111;g0,0,11111;g0,0,00000;p22222;p22222;p22222;p22222;p22222;";
        year(Due.laid(others + "p00000;"), 3653, 1, 1, 0, 1);
        year(Due.laid(others + "p22222;"), 3653, 1, 0, 1, 0);
        // Modulo 4 gates it is the third, modulo 2 persons the second.
        year(Due.laid("g0,0,11111;g0,0,11111;g0,0,00000;g0,0,11111;p22222;p00000;"), 3653, 1, 1, 0, 1);
        year(Due.laid("g0,0,00000;g0,0,00000;g0,0,11111;g0,0,00000;p00000;p00000;"), 3653, 1, 0, 1, 0);
    }

    private static void onePersonAlone() {
        DUE.says("if there is another one");
        GateSayings x = Due.laid("g0,40,00000;p12345;");
        for (int n = 1; n <= 4; n++) {
            year(x, 0, n, 0, 0, 0);
        }
        year(x, 0, 5, 1, 0, 1);
    }

    /** One says it as the gate only behind a talk with the next one, the last with the first, not with another. */
    private static void behindTheLastTheFirst() {
        DUE.says("else TALKS with the next PERSON (behind the last one the first)");
        year(Due.laid("g0,0,10000;p20000;p00000;"), 26, 1, 0, 0, 0);
        year(Due.laid("g0,0,10000;p20000;p00000;"), 26, 2, 1, 0, 1);
        year(Due.laid("g0,0,10000;p00000;p00000;"), 26, 2, 0, 1, 0);
        year(Due.laid("g0,0,10000;p20000;p00000;p00000;"), 15, 2, 1, 0, 1);
        year(Due.laid("g0,0,10000;p00000;p20000;p00000;"), 15, 2, 0, 1, 0);
        year(Due.laid("g0,0,10000;p20000;p00000;p00000;p00000;p00000;p00000;"), 86, 2, 1, 0, 1);
        year(Due.laid("g0,0,10000;p00000;p20000;p20000;p20000;p20000;p00000;"), 86, 2, 0, 1, 0);
        // In year 44 it is the first person that talks and asks, in 66 of three the second, in 785 the last but one.
        year(Due.laid("g0,0,10000;p00000;p20000;"), 44, 2, 1, 0, 1);
        year(Due.laid("g0,0,10000;p00000;p20000;p00000;"), 44, 2, 1, 0, 1);
        year(Due.laid("g0,0,10000;p00000;p00000;p20000;"), 44, 2, 0, 1, 0);
        year(Due.laid("g0,0,10000;p00000;p00000;p20000;"), 66, 2, 1, 0, 1);
        year(Due.laid("g0,0,10000;p20000;p00000;p00000;"), 66, 2, 0, 1, 0);
        year(Due.laid("g0,0,10000;p00000;p00000;p00000;p00000;p00000;p20000;"), 785, 2, 1, 0, 1);
        year(Due.laid("g0,0,10000;p20000;p20000;p20000;p20000;p00000;p00000;"), 785, 2, 0, 1, 0);
    }

    private static void fromNowOn() {
        DUE.says("how often one was LET IN in it; how often SHUT OUT in it; how many PERSONS are of a GATE then.");
        // In year 23 person 1 asks first: the gate drifts to what person 0 is near enough to then.
        year(Due.laid("g0,1,00000;p00002;p00001;"), 23, 2, 2, 0, 2);
        year(Due.laid("g0,1,00000;p00003;p00001;"), 23, 2, 1, 1, 1);
        GateSayings open = Due.laid(OPEN);
        for (int i = 0; i < 3; i++) {
            open.ask(0, 0);
        }
        year(open, 0, 4, 0, 0, 1);
        year(open, 0, 5, 1, 0, 1);
        GateSayings shut = Due.laid(SHUT);
        for (int i = 0; i < 3; i++) {
            shut.ask(0, 0);
        }
        year(shut, 0, 4, 0, 0, 0);
        year(shut, 0, 5, 0, 1, 0);
        GateSayings both = Due.laid("g0,0,00000;g0,0,11111;p00000;p11111;p22222;");
        both.ask(0, 0);
        both.ask(1, 1);
        year(both, 0, 1, 0, 0, 2);
        GateSayings learnt = Due.laid("g0,0,10000;p00000;p10000;");
        int ahead = learnt.year(2, 1, 0);
        learnt.talk(0, 1);
        DUE.is("year(2, 1, 0) ahead of a talk", ahead, 0);
        DUE.is("year(2, 1, 0) behind it", learnt.year(2, 1, 0), 1);
    }

    private static void nothingChangesByIt() {
        DUE.says("(nothing changes by it)");
        Twins.same(DUE, "years", x -> {
            x.ask(0, 0);
            x.talk(1, 2);
            x.keep();
        }, x -> {
            for (int z : new int[] {0, 77, 9999}) {
                for (int what = 0; what <= 2; what++) {
                    DUE.is("year again", x.year(z, 60, what), x.year(z, 60, what));
                }
            }
        });
    }

    private static void numbersOfAYear() {
        DUE.says("A YEAR: LET IN (what = 0), SHUT OUT (1), of a GATE (2). BAD.");
        GateSayings x = Due.laid(OPEN);
        DUE.is("year(-1, 1, 0)", x.year(-1, 1, 0), BAD);
        DUE.is("year(0, 1, 0)", x.year(0, 1, 0), 0);
        DUE.is("year(9999, 1, 0)", x.year(9999, 1, 0), draw(9999, 0) / 64 % 4 != 0 ? 1 : 0);
        DUE.is("year(10000, 1, 0)", x.year(10000, 1, 0), BAD);
        DUE.is("year(0, 0, 0)", x.year(0, 0, 0), BAD);
        DUE.is("year(0, -1, 0)", x.year(0, -1, 0), BAD);
        DUE.is("year(0, 60, 0)", x.year(0, 60, 0), 43);
        DUE.is("year(0, 61, 0)", x.year(0, 61, 0), BAD);
        DUE.is("year(0, 1, -1)", x.year(0, 1, -1), BAD);
        DUE.is("year(0, 1, 3)", x.year(0, 1, 3), BAD);
    }
}
