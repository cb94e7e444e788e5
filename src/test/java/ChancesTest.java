/** Promises 26 and 27: likely, year. */
public final class ChancesTest {
    private static final Due DUE = new Due("ChancesTest");

    public static void main(String[] args) {
        likelihoods();
        likelihoodsAsAllStands();
        firstTimesOfYearZero();
        yearsOfAnotherNumber();
        yearsChangeNothing();
        badNumbers();
        DUE.end();
    }

    private static void likely(String town, int x, int above, int below) {
        GateSayings it = Due.laid(town);
        String ahead = Due.stand(it);
        DUE.is("likely(0, 0, " + x + ", 0) of " + town, it.likely(0, 0, x, 0), above);
        DUE.is("likely(0, 0, " + x + ", 1) of " + town, it.likely(0, 0, x, 1), below);
        DUE.text("all behind likely", Due.stand(it), ahead);
    }

    private static void likelihoods() {
        String all = "g0,0,00000;p00000;";
        likely(all, 0, 1, 1);
        likely(all, 1, 59049, 100000);
        likely(all, 2, 1024, 3125);
        likely(all, 4, 243, 3125);
        likely(all, 5, 1, 32);
        likely(all, 9, 1, 100000);
        likely(all, 10, 0, 1);
        likely("g0,0,00000;p55555;", 10, 1, 1);
        likely("g0,0,00000;p55555;", 5, 1, 32);
        likely("g0,0,00000;p55555;", 0, 0, 1);
        likely("g0,0,00000;p50000;", 1, 1 * 9 * 9 * 9 * 9, 100000);
        likely("g0,0,00000;p00005;", 3, 3 * 7 * 7 * 7 * 7, 100000);
        likely("g0,5,00000;p50000;", 5, 17, 32);
        likely("g1,0,00000;p00000;", 5, 1, 16);
        likely("g2,1,00000;p00000;", 5, 5, 32);
        likely("g3,1,00000;p00000;", 5, 1, 32);
        likely("g3,2,00000;p00000;", 5, 3, 16);
        likely("g0,40,00000;p43210;", 7, 1, 1);
    }

    private static void likelihoodsAsAllStands() {
        GateSayings x = Due.laid("g0,0,55555;g0,0,00001;p00000;p00001;");
        DUE.is("likely(0, 1, 1, 0)", x.likely(0, 1, 1, 0), 6561);
        x.talk(0, 1);
        DUE.is("likely(0, 1, 1, 0) behind a talk", x.likely(0, 1, 1, 0), 59049);
        DUE.is("likely(1, 1, 1, 0)", x.likely(1, 1, 1, 0), 59049);
        DUE.is("likely(0, 0, 1, 0)", x.likely(0, 0, 1, 0), 0);
        DUE.is("likely(0, 0, 1, 1)", x.likely(0, 0, 1, 1), 1);
    }

    private static void year(GateSayings x, int z, int n, int in, int out, int settled) {
        DUE.is("year(" + z + ", " + n + ", 0)", x.year(z, n, 0), in);
        DUE.is("year(" + z + ", " + n + ", 1)", x.year(z, n, 1), out);
        DUE.is("year(" + z + ", " + n + ", 2)", x.year(z, n, 2), settled);
    }

    /**
     * The first draws of year 0 are 0, 20743, 5149, 18739 and 28753; by 64, cut, only the last is
     * not 0 modulo 4. The first four are talks of persons 0, 1, 1, 1 of two.
     */
    private static void firstTimesOfYearZero() {
        GateSayings alone = Due.laid("g0,0,00000;p00000;");
        for (int n = 1; n <= 4; n++) {
            year(alone, 0, n, 0, 0, 0);
        }
        year(alone, 0, 5, 1, 0, 1);
        year(Due.laid("g0,0,00000;p00001;"), 0, 5, 0, 1, 0);
        // Person 1 asks at gate 0: 28753 is odd, and 28753 by 8 is 3594, even.
        GateSayings two = Due.laid("g0,0,00000;g0,40,00000;p00000;p00000;");
        year(two, 0, 5, 1, 0, 1);
        year(Due.laid("g0,0,11111;g0,40,00000;p00000;p00000;"), 0, 5, 0, 1, 0);
        // Of 3 gates it is the one 3594 modulo 3 = 0 tells, of 5 that of 3594 modulo 5 = 4.
        year(Due.laid("g0,0,00000;g0,0,11111;g0,0,11111;p00000;"), 0, 5, 1, 0, 1);
        String farOff = "g0,0,11111;".repeat(4);
        year(Due.laid(farOff + "g0,0,00000;p00000;"), 0, 5, 1, 0, 1);
        // Person 0 talks to 1 first, then 1 to 0 three times: 00000, 50000 come to 10000, 20000.
        year(Due.laid("g0,0,20000;p00000;p50000;"), 0, 5, 1, 0, 1);
        year(Due.laid("g0,0,10000;p00000;p50000;"), 0, 5, 0, 1, 0);
    }

    private static void yearsOfAnotherNumber() {
        // z 1: x is 7920, its square 62726400 modulo 65521 is 22803, the draw 11401; by 64, cut, 178: it asks.
        GateSayings x = Due.laid("g0,0,00000;p00000;");
        year(x, 1, 1, 1, 0, 1);
        // z 9999, time 59: the square of 79545991 needs a long.
        long last = (7919L * 9999 + 6151L * 59 + 1) * (7919L * 9999 + 6151L * 59 + 1) % 65521 / 2;
        int before = x.year(9999, 59, 0);
        DUE.is("year(9999, 60, 0)", x.year(9999, 60, 0), before + (last / 64 % 4 != 0 ? 1 : 0));
        GateSayings shut = Due.laid("g3,0,55555;p00000;");
        DUE.is("year(5, 60, 1)", shut.year(5, 60, 1), 40);
        DUE.is("year(5, 60, 0)", shut.year(5, 60, 0), 0);
        DUE.is("year(5, 60, 2)", shut.year(5, 60, 2), 0);
    }

    private static void yearsChangeNothing() {
        GateSayings x = new GateSayings();
        x.ask(0, 0);
        x.ask(3, 0);
        String ahead = Due.stand(x);
        int in = x.year(77, 60, 0);
        int out = x.year(77, 60, 1);
        DUE.is("year(77, 60, 2)", x.year(77, 60, 2), 3);
        DUE.text("all behind a year", Due.stand(x), ahead);
        DUE.is("the same year again", x.year(77, 60, 0), in);
        DUE.is("the same year again", x.year(77, 60, 1), out);
        DUE.is("undo()", x.undo(), 1);
        GateSayings shut = Due.laid("g3,0,55555;p00000;");
        shut.ask(0, 0);
        DUE.is("year(5, 60, 1) of one who was shut out ahead of it", shut.year(5, 60, 1), 40);
        GateSayings open = Due.laid("g3,0,55555;p55555;");
        open.ask(0, 0);
        DUE.is("year(5, 60, 0) of one who was let in ahead of it", open.year(5, 60, 0), 40);
        GateSayings settled = Due.laid("g0,0,00000;p00000;p55555;");
        settled.ask(0, 0);
        year(settled, 0, 1, 0, 0, 1);
    }

    private static void badNumbers() {
        GateSayings x = new GateSayings();
        for (int bad : Due.NEVER) {
            DUE.is("likely(" + bad + ", 0, 0, 0)", x.likely(bad, 0, 0, 0), GateSayings.BAD);
            DUE.is("likely(0, " + bad + ", 0, 0)", x.likely(0, bad, 0, 0), GateSayings.BAD);
            DUE.is("likely(0, 0, 0, " + bad + ")", x.likely(0, 0, 0, bad), GateSayings.BAD);
            DUE.is("year(0, 1, " + bad + ")", x.year(0, 1, bad), GateSayings.BAD);
            if (bad != 7) {
                DUE.is("likely(0, 0, " + bad + ", 0)", x.likely(0, 0, bad, 0), GateSayings.BAD);
                DUE.is("year(0, " + bad + ", 0)", x.year(0, bad, 0), GateSayings.BAD);
            }
            if (bad < 0 || bad > 9999) {
                DUE.is("year(" + bad + ", 1, 0)", x.year(bad, 1, 0), GateSayings.BAD);
            }
        }
        DUE.is("likely(4, 0, 0, 0)", x.likely(4, 0, 0, 0), GateSayings.BAD);
        DUE.is("likely(0, 4, 0, 0)", x.likely(0, 4, 0, 0), GateSayings.BAD);
        DUE.is("likely(0, 0, 11, 0)", x.likely(0, 0, 11, 0), GateSayings.BAD);
        DUE.is("likely(0, 0, 0, 2)", x.likely(0, 0, 0, 2), GateSayings.BAD);
        DUE.is("year(10000, 1, 0)", x.year(10000, 1, 0), GateSayings.BAD);
        DUE.is("year(0, 0, 0)", x.year(0, 0, 0), GateSayings.BAD);
        DUE.is("year(0, 61, 0)", x.year(0, 61, 0), GateSayings.BAD);
        DUE.is("year(0, 1, 3)", x.year(0, 1, 3), GateSayings.BAD);
    }
}
