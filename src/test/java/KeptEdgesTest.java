/** Promises 28 to 30, and what the Terms tell of KEPT, at its edges; what can be counted, at its least and most. */
public final class KeptEdgesTest {
    private static final Due DUE = new Due("KeptEdgesTest");
    private static final int BAD = GateSayings.BAD, NO = GateSayings.NO, FULL = GateSayings.FULL,
        NONE = GateSayings.NONE;

    public static void main(String[] args) {
        twoAtMost();
        allAsItStands();
        manyAskedAheadOfIt();
        butTheTextSeenHeard();
        asKeptLast();
        nothingIsUndoneThen();
        keepingChangesNothing();
        countedAtLeast();
        countedAtMost();
        countedOneByOne();
        DUE.end();
    }

    private static void twoAtMost() {
        DUE.says("KEPT: how many. FULL.");
        DUE.says("KEPT is all as it stands, but THE TEXT and what is SEEN, HEARD: 2 at most.");
        GateSayings x = Due.laid("g0,40,00000;p50000;p00000;");
        DUE.is("keep()", x.keep(), 1);
        x.talk(0, 1);
        DUE.is("keep()", x.keep(), 2);
        x.talk(0, 1);
        DUE.is("keep() of a third", x.keep(), FULL);
        DUE.is("keep() of a third again", x.keep(), FULL);
        DUE.is("count(8)", x.count(8), 2);
        DUE.is("back()", x.back(), 1);
        DUE.person(x, 0, "40000", NONE);
        x.talk(0, 1);
        x.talk(0, 1);
        DUE.is("keep() where one has left", x.keep(), 2);
        DUE.is("keep() of a third", x.keep(), FULL);
        x.talk(0, 1);
        DUE.is("back()", x.back(), 1);
        DUE.person(x, 0, "20000", NONE);
        DUE.is("back()", x.back(), 0);
        DUE.person(x, 0, "50000", NONE);
        DUE.is("back()", x.back(), NO);
        DUE.is("keep()", x.keep(), 1);
    }

    private static void allAsItStands() {
        GateSayings x = Due.laid("g1,9,00000;g2,0,55555;p20000;p00005;p00000;");
        x.ask(0, 0);
        x.ask(1, 1);
        x.talk(1, 2);
        x.listen(1, 0);
        DUE.is("keep()", x.keep(), 1);
        String stood = Due.stand(x).replaceFirst("0 4 1 ", "0 0 0 ");
        x.ask(2, 0);
        x.ask(1, 0);
        x.ask(0, 1);
        x.listen(0, 1);
        x.talk(2, 1);
        DUE.is("count(2)", x.count(2), 3);
        DUE.is("count(3)", x.count(3), 2);
        DUE.is("count(4)", x.count(4), 3);
        DUE.is("back()", x.back(), 0);
        DUE.text("as it stood, but for what can be undone and is kept", Due.stand(x), stood);
        DUE.person(x, 0, "10000", 0);
        DUE.person(x, 1, "00004", NONE);
        DUE.gate(x, 0, "1,9,10000");
        DUE.gate(x, 1, "2,0,45555");
        DUE.is("count(2)", x.count(2), 1);
        DUE.is("count(3)", x.count(3), 1);
    }

    /** More than a byte holds, let in at the one gate and shut out at the other. */
    private static void manyAskedAheadOfIt() {
        manyAsked("g0,40,00000;p00000;", 2, 43);
        manyAsked("g3,40,00000;p55555;", 3, 43);
    }

    private static void manyAsked(String town, int counted, int inYearNought) {
        GateSayings x = Due.laid(town);
        for (int i = 0; i < 400; i++) {
            x.ask(0, 0);
        }
        DUE.is("keep()", x.keep(), 1);
        DUE.is("year(0, 60, " + (counted - 2) + ") behind 400", x.year(0, 60, counted - 2), inYearNought);
        x.ask(0, 0);
        x.ask(0, 0);
        DUE.is("undo()", x.undo(), 7);
        DUE.is("count(" + counted + ") behind undo", x.count(counted), 401);
        DUE.is("back()", x.back(), 0);
        DUE.is("count(" + counted + ") behind back", x.count(counted), 400);
        DUE.is("count(" + (5 - counted) + "): none", x.count(5 - counted), 0);
    }

    private static void butTheTextSeenHeard() {
        DUE.says("but THE TEXT and what is SEEN, HEARD");
        GateSayings x = Due.laid("g0,0,00000;g0,0,00001;p00000;");
        x.seen(0, 0, 0);
        x.heard(4, 0);
        x.keep();
        x.forget();
        x.wipe();
        DUE.is("back()", x.back(), 0);
        DUE.is("what was forgotten is not seen", x.count(5), 0);
        DUE.is("nor heard", x.count(6), 0);
        DUE.is("what was wiped is not written", x.count(9), 0);
        DUE.is("kinds(0)", x.kinds(0), 15);
        DUE.is("from()", x.from(), 3);
        x.keep();
        x.seen(0, 0, 0);
        x.seen(0, 1, 0);
        x.heard(4, 1);
        Due.write(x, "p1");
        DUE.is("back()", x.back(), 0);
        DUE.is("what is seen since stays", x.count(5), 2);
        DUE.is("what is heard since stays", x.count(6), 1);
        DUE.is("what is written since stays", x.count(9), 2);
        DUE.is("kinds(0)", x.kinds(0), 0);
        DUE.is("from()", x.from(), 2);
    }

    private static void asKeptLast() {
        DUE.says("As KEPT last (it is KEPT no more then): how many are left; nothing is UNDONE then. NO.");
        GateSayings x = Due.laid("g0,40,00000;p50000;p00000;");
        DUE.is("back() of nothing", x.back(), NO);
        x.keep();
        x.keep();
        x.talk(0, 1);
        DUE.is("back()", x.back(), 1);
        DUE.person(x, 0, "50000", NONE);
        x.talk(0, 1);
        DUE.is("back() to the same again", x.back(), 0);
        DUE.person(x, 0, "50000", NONE);
        x.talk(0, 1);
        DUE.is("back(): it is kept no more", x.back(), NO);
        DUE.person(x, 0, "40000", NONE);
        DUE.is("count(8)", x.count(8), 0);
        x.keep();
        DUE.is("lay()", x.lay(), 2);
        DUE.is("back(): not kept through lay", x.back(), NO);
        DUE.person(x, 0, "50000", NONE);
    }

    private static void nothingIsUndoneThen() {
        DUE.says("nothing is UNDONE then");
        GateSayings x = Due.laid("g0,0,00000;p50000;p00000;");
        x.talk(0, 1);
        x.keep();
        x.talk(0, 1);
        DUE.is("back()", x.back(), 0);
        DUE.is("count(7)", x.count(7), 0);
        DUE.is("undo()", x.undo(), NO);
        DUE.person(x, 0, "40000", NONE);
        for (int i = 1; i <= 9; i++) {
            x.ask(0, 0);
            DUE.is("count(7) behind it", x.count(7), Math.min(i, 8));
        }
        DUE.is("back() that is NO", x.back(), NO);
        DUE.is("undo() behind it", x.undo(), 7);
        GateSayings eight = Due.laid("g0,0,00000;p50000;p00000;");
        for (int i = 0; i < 8; i++) {
            eight.ask(0, 0);
        }
        eight.keep();
        DUE.is("back()", eight.back(), 0);
        DUE.is("undo(): of none of eight", eight.undo(), NO);
        DUE.is("count(3)", eight.count(3), 8);
    }

    private static void keepingChangesNothing() {
        GateSayings x = Due.laid("g0,40,00000;p50000;p00000;");
        x.talk(0, 1);
        x.ask(0, 0);
        x.seen(0, 0, 1);
        DUE.is("keep()", x.keep(), 1);
        DUE.is("count(7) stays", x.count(7), 2);
        DUE.is("count(5) stays", x.count(5), 1);
        DUE.is("undo() behind keep", x.undo(), 1);
        DUE.is("undo() behind keep", x.undo(), 0);
        DUE.is("undo(): keeping is not undone", x.undo(), NO);
        DUE.is("count(8): what is kept stays", x.count(8), 1);
        DUE.person(x, 0, "50000", NONE);
        DUE.is("back()", x.back(), 0);
        DUE.person(x, 0, "30000", 0);
        DUE.gate(x, 0, "0,40,10000");
        DUE.is("count(2)", x.count(2), 1);
        Twins.same(DUE, "keep and back", y -> {
            y.seen(0, 0, 1);
            y.heard(0, 0);
        }, y -> {
            y.keep();
            y.back();
        });
    }

    private static void counts(GateSayings x, int... due) {
        DUE.is("count(-1)", x.count(-1), BAD);
        for (int what = 0; what < 10; what++) {
            DUE.is("count(" + what + ")", x.count(what), due[what]);
        }
        DUE.is("count(10)", x.count(10), BAD);
    }

    private static void countedAtLeast() {
        DUE.says("How many: 0 GATES, 1 PERSONS, 2 were LET IN, 3 SHUT OUT, 4 PERSONS are of a GATE, 5 SEEN, 6 HEARD,"
            + " 7 that can be UNDONE, 8 KEPT, 9 letters of THE TEXT. BAD.");
        GateSayings x = Due.laid("g0,0,00000;p00000;");
        x.wipe();
        counts(x, 1, 1, 0, 0, 0, 0, 0, 0, 0, 0);
        counts(new GateSayings(), 4, 4, 0, 0, 0, 0, 0, 0, 0, 0);
        DUE.is("count(-4)", x.count(-4), BAD);
        DUE.is("count(256)", x.count(256), BAD);
        DUE.is("count(least)", x.count(Integer.MIN_VALUE), BAD);
        DUE.is("count(most)", x.count(Integer.MAX_VALUE), BAD);
    }

    private static void countedAtMost() {
        GateSayings x = Due.laid("g0,40,00000;".repeat(4) + "g0,0,55555;" + "p00000;".repeat(6));
        for (int p = 0; p < 6; p++) {
            x.ask(p, p % 4);
            x.ask(p, 4);
            x.ask(p, 3);
        }
        for (int i = 0; i < 9; i++) {
            x.seen(0, 0, 1);
            x.heard(0, 0);
            x.keep();
        }
        Due.fill(x, '~');
        x.write('~');
        counts(x, 5, 6, 12, 6, 6, 6, 8, 8, 2, 200);
    }

    private static void countedOneByOne() {
        GateSayings x = Due.laid("g0,9,00000;g0,0,55555;p10000;p20000;");
        x.wipe();
        x.ask(0, 0);
        counts(x, 2, 2, 1, 0, 1, 0, 0, 1, 0, 0);
        x.ask(0, 1);
        counts(x, 2, 2, 1, 1, 1, 0, 0, 2, 0, 0);
        x.talk(1, 0);
        counts(x, 2, 2, 1, 1, 1, 0, 0, 3, 0, 0);
        x.listen(1, 0);
        counts(x, 2, 2, 1, 1, 1, 0, 0, 4, 0, 0);
        x.seen(0, 0, 1);
        counts(x, 2, 2, 1, 1, 1, 1, 0, 4, 0, 0);
        x.heard(0, 1);
        counts(x, 2, 2, 1, 1, 1, 1, 1, 4, 0, 0);
        x.keep();
        counts(x, 2, 2, 1, 1, 1, 1, 1, 4, 1, 0);
        x.write('p');
        counts(x, 2, 2, 1, 1, 1, 1, 1, 4, 1, 1);
        x.undo();
        counts(x, 2, 2, 1, 1, 1, 1, 1, 3, 1, 1);
        x.forget();
        counts(x, 2, 2, 1, 1, 1, 0, 0, 3, 1, 1);
        x.back();
        counts(x, 2, 2, 1, 1, 1, 0, 0, 0, 0, 1);
        x.wipe();
        counts(x, 2, 2, 1, 1, 1, 0, 0, 0, 0, 0);
    }
}
