/** Promises 19 to 25, and what the Terms tell of SEEN, KINDS, EARS, HEARD, FROM and NEAREST, at its edges. */
public final class WitnessEdgesTest {
    private static final Due DUE = new Due("WitnessEdgesTest");
    private static final int BAD = GateSayings.BAD, FULL = GateSayings.FULL, NONE = GateSayings.NONE;

    public static void main(String[] args) {
        sixSights();
        inOrNot();
        notWhenItWasSeen();
        allKindsAndNone();
        kindsAtTheEar();
        allEarsAndNone();
        earsAtTheirEnds();
        eightSounds();
        fromAllAndNone();
        nearestOfNothing();
        nearestAtMost();
        byHowTheySayItNow();
        forgotten();
        DUE.end();
    }

    private static void sixSights() {
        DUE.says("SEEN: how many. BAD; FULL.");
        DUE.says("SEEN (6 at most)");
        GateSayings x = Due.laid("g0,0,00000;g0,0,00000;p00000;p11111;");
        int[][] sights = {{0, 0, 1}, {1, 0, 0}, {0, 1, 1}, {1, 1, 0}, {0, 0, 1}, {0, 0, 1}};
        for (int i = 0; i < 6; i++) {
            DUE.is("seen, time " + i, x.seen(sights[i][0], sights[i][1], sights[i][2]), i + 1);
            DUE.is("count(5)", x.count(5), i + 1);
        }
        DUE.is("a seventh", x.seen(0, 0, 1), FULL);
        DUE.is("a seventh of another gate", x.seen(1, 1, 1), FULL);
        DUE.is("count(5)", x.count(5), 6);
        DUE.is("kinds(1): the seventh is not seen", x.kinds(1), 15);
        DUE.is("sounds can be heard still", x.heard(0, 0), 1);
        x.forget();
        DUE.is("seen when nothing is", x.seen(1, 1, 1), 1);
        DUE.is("kinds(1)", x.kinds(1), 0);
    }

    private static void inOrNot() {
        DUE.says("that a PERSON, as all is now, would be LET IN at a GATE, or not (1, 0)");
        GateSayings x = Due.laid("g0,1,00000;g0,0,00000;p00001;p00011;");
        DUE.is("seen(0, 0, 2)", x.seen(0, 0, 2), BAD);
        DUE.is("seen(0, 0, -1)", x.seen(0, 0, -1), BAD);
        DUE.is("seen(2, 0, 0)", x.seen(2, 0, 0), BAD);
        DUE.is("seen(-1, 0, 0)", x.seen(-1, 0, 0), BAD);
        DUE.is("seen(0, 2, 0)", x.seen(0, 2, 0), BAD);
        DUE.is("seen(0, -1, 0)", x.seen(0, -1, 0), BAD);
        DUE.is("count(5)", x.count(5), 0);
        DUE.is("what is so", x.seen(1, 1, 0), 1);
        DUE.is("what is not so", x.seen(0, 1, 1), 2);
        DUE.is("nothing comes of it, count(2)", x.count(2), 0);
        DUE.is("nothing comes of it, count(3)", x.count(3), 0);
        DUE.is("nothing comes of it, count(7)", x.count(7), 0);
    }

    private static void notWhenItWasSeen() {
        DUE.says("(by how all stands when that is asked, not when it was SEEN)");
        GateSayings x = Due.laid("g0,2,00000;g0,0,00000;g0,0,00005;p00003;p00000;");
        x.seen(0, 0, 0);
        DUE.is("kinds(0): not so, 3, 3, 6 and 6 far", x.kinds(0), 15);
        x.talk(0, 1);
        DUE.is("kinds(0): 2, 2, 4 and 4 far", x.kinds(0), 4 | 8);
        DUE.is("ears(0, 0)", x.ears(0, 0), 2);
        x.talk(0, 1);
        DUE.is("kinds(0): 1, 1, 2 and 2 far", x.kinds(0), 0);
        DUE.is("ears(0, 0)", x.ears(0, 0), 1);
        x.talk(0, 1);
        DUE.is("ears(0, 0): 0 far", x.ears(0, 0), 0);
        DUE.is("ears(0, 1): 0 far", x.ears(0, 1), NONE);
        x.undo();
        DUE.is("ears(0, 0) undone", x.ears(0, 0), 1);
        x.listen(0, 2);
        x.listen(0, 2);
        DUE.is("ears(0, 0): the gate has gone by", x.ears(0, 0), 1);
        x.listen(0, 2);
        DUE.is("ears(0, 0): 2 far", x.ears(0, 0), 2);
        DUE.is("kinds(0): 2, 2, 4 and 4 far", x.kinds(0), 4 | 8);
    }

    private static void allKindsAndNone() {
        DUE.says("KINDS of a GATE (bits of 0 to 3), in place of its own, by which all that is SEEN there would be so");
        GateSayings x = Due.laid("g0,4,00000;g3,4,00000;p10101;p11111;");
        DUE.is("kinds(0) of nothing seen", x.kinds(0), 15);
        DUE.is("kinds(1) of nothing seen", x.kinds(1), 15);
        x.seen(0, 0, 1);
        DUE.is("kinds(0): 3, 2, 4 and 6 far", x.kinds(0), 1 | 2 | 4);
        DUE.is("kinds(1): not seen there", x.kinds(1), 15);
        x.seen(1, 0, 0);
        DUE.is("kinds(0): 5, 4, 6 and 10 far", x.kinds(0), 1 | 4);
        x.seen(1, 0, 1);
        DUE.is("kinds(0): so and not so", x.kinds(0), 0);
        DUE.is("kinds(1)", x.kinds(1), 15);
        DUE.is("gate(0, 5)", x.gate(0, 5), 0);
        DUE.says("KINDS, as bits. BAD.");
        DUE.is("kinds(2)", x.kinds(2), BAD);
        DUE.is("kinds(-1)", x.kinds(-1), BAD);
    }

    /** Far by kind: PLAIN 5, COUGHING 4, LONG 6, SUNG 10. */
    private static void kindsAtTheEar() {
        int[] ears = {3, 4, 5, 6, 9, 10};
        int[] kinds = {0, 2, 1 | 2, 1 | 2 | 4, 1 | 2 | 4, 15};
        for (int i = 0; i < ears.length; i++) {
            for (int own = 0; own < 4; own++) {
                GateSayings x = Due.laid("g" + own + "," + ears[i] + ",00000;p11111;");
                x.seen(0, 0, 1);
                DUE.is("kinds(0), ear " + ears[i] + ", own kind " + own, x.kinds(0), kinds[i]);
                x.forget();
                x.seen(0, 0, 0);
                DUE.is("kinds(0) of who is not let in, ear " + ears[i], x.kinds(0), 15 - kinds[i]);
            }
        }
    }

    private static void ears(String town, int in, int many, int least) {
        GateSayings x = Due.laid(town);
        x.seen(0, 0, in);
        DUE.is("ears(0, 0) of " + town, x.ears(0, 0), many);
        DUE.is("ears(0, 1) of " + town, x.ears(0, 1), least);
    }

    private static void allEarsAndNone() {
        DUE.says("EARS: how many (what = 0), the least (1; NONE). BAD.");
        GateSayings x = Due.laid("g0,7,00000;g0,7,00000;p00001;p00003;");
        DUE.is("ears(0, 0) of nothing seen", x.ears(0, 0), 41);
        DUE.is("ears(0, 1) of nothing seen", x.ears(0, 1), 0);
        x.seen(1, 0, 1);
        x.seen(0, 0, 0);
        DUE.is("ears(0, 0): the farther one is let in, the nearer not", x.ears(0, 0), 0);
        DUE.is("ears(0, 1)", x.ears(0, 1), NONE);
        DUE.is("ears(1, 0): not seen there", x.ears(1, 0), 41);
        DUE.is("ears(0, 2)", x.ears(0, 2), BAD);
        DUE.is("ears(0, -1)", x.ears(0, -1), BAD);
        DUE.is("ears(2, 0)", x.ears(2, 0), BAD);
        DUE.is("ears(-1, 0)", x.ears(-1, 0), BAD);
        DUE.is("gate(0, 6)", x.gate(0, 6), 7);
        x.forget();
        x.seen(0, 0, 1);
        x.seen(1, 0, 0);
        DUE.is("ears(0, 0): 1 and 2", x.ears(0, 0), 2);
        DUE.is("ears(0, 1): 1 and 2", x.ears(0, 1), 1);
    }

    private static void earsAtTheirEnds() {
        DUE.says("EARS of it (0 to 40) likewise: how many; the least; none.");
        ears("g0,9,00000;p00000;", 1, 41, 0);
        ears("g0,9,00000;p00000;", 0, 0, NONE);
        ears("g0,9,00000;p00001;", 1, 40, 1);
        ears("g0,9,00000;p00001;", 0, 1, 0);
        ears("g0,9,00000;p55555;", 1, 16, 25);
        ears("g0,9,00000;p55555;", 0, 25, 0);
        ears("g3,9,00000;p55550;", 1, 1, 40);
        ears("g3,9,00000;p55550;", 0, 40, 0);
        ears("g3,9,00000;p55551;", 1, 0, NONE);
        ears("g3,9,00000;p55551;", 0, 41, 0);
        ears("g3,9,00000;p55555;", 1, 0, NONE);
        ears("g1,9,00000;p50000;", 1, 41, 0);
        ears("g2,9,00000;p00005;", 1, 31, 10);
    }

    private static void eightSounds() {
        DUE.says("HEARD: how many. BAD; FULL.");
        DUE.says("HEARD (8 at most) is that a stranger has a SOUND at a place.");
        GateSayings x = Due.laid("g0,0,05050;g0,0,50505;p00000;");
        DUE.is("heard(5, 0)", x.heard(5, 0), BAD);
        DUE.is("heard(-1, 0)", x.heard(-1, 0), BAD);
        DUE.is("heard(0, 6)", x.heard(0, 6), BAD);
        DUE.is("heard(0, -1)", x.heard(0, -1), BAD);
        DUE.is("count(6)", x.count(6), 0);
        int[][] sounds = {{0, 0}, {1, 5}, {2, 0}, {3, 5}, {4, 0}, {0, 0}, {0, 0}, {4, 0}};
        for (int i = 0; i < 8; i++) {
            DUE.is("heard, time " + i, x.heard(sounds[i][0], sounds[i][1]), i + 1);
            DUE.is("count(6)", x.count(6), i + 1);
        }
        DUE.is("a ninth", x.heard(0, 5), FULL);
        DUE.is("a ninth that was heard", x.heard(0, 0), FULL);
        DUE.is("count(6)", x.count(6), 8);
        DUE.is("from(): the ninth is not heard", x.from(), 1);
        DUE.is("one can be seen still", x.seen(0, 0, 0), 1);
        x.forget();
        DUE.is("heard when nothing is", x.heard(0, 5), 1);
        DUE.is("from()", x.from(), 2);
    }

    private static void fromAllAndNone() {
        DUE.says("FROM: GATES (bits) that have all that is HEARD");
        DUE.says("FROM, as bits.");
        GateSayings one = Due.laid("g0,0,12345;p00000;");
        DUE.is("from() of nothing heard", one.from(), 1);
        GateSayings x = Due.laid("g0,0,01234;g0,0,01235;g0,0,01215;g0,0,01215;g0,0,51215;p00000;");
        DUE.is("from() of nothing heard", x.from(), 31);
        x.heard(1, 1);
        DUE.is("from()", x.from(), 31);
        x.heard(4, 5);
        DUE.is("from()", x.from(), 30);
        x.heard(3, 1);
        DUE.is("from()", x.from(), 28);
        x.heard(0, 5);
        DUE.is("from()", x.from(), 16);
        x.heard(0, 0);
        DUE.is("from(): two sounds at a place", x.from(), 0);
    }

    private static void nearest(GateSayings x, int which, int at) {
        DUE.is("nearest(0)", x.nearest(0), which);
        DUE.is("nearest(1)", x.nearest(1), at);
        DUE.is("nearest(2)", x.nearest(2), BAD);
        DUE.is("nearest(-1)", x.nearest(-1), BAD);
    }

    private static void nearestOfNothing() {
        DUE.says("NEAREST: of GATES that which differs at fewest of what is HEARD, of several the lowest; at how many.");
        DUE.says("NEAREST: which (what = 0), at how many (1). BAD.");
        nearest(Due.laid("g0,0,12345;p00000;"), 0, 0);
        nearest(Due.laid("g0,0,12345;g0,0,00000;p00000;"), 0, 0);
        GateSayings x = Due.laid("g0,0,11111;g0,0,00000;g0,0,00000;g0,0,11110;g0,0,11100;p00000;");
        x.heard(4, 0);
        nearest(x, 1, 0);
        x.heard(3, 1);
        nearest(x, 3, 0);
        x.heard(3, 0);
        nearest(x, 1, 1);
        x.heard(0, 1);
        nearest(x, 3, 1);
        x.heard(3, 0);
        nearest(x, 4, 1);
    }

    private static void nearestAtMost() {
        GateSayings x = Due.laid("g0,0,00000;g0,0,00001;g0,0,00002;g0,0,00003;g0,0,00004;p00000;");
        for (int i = 1; i <= 8; i++) {
            x.heard(4, 5);
            nearest(x, 0, i);
        }
        x.forget();
        for (int i = 0; i < 7; i++) {
            x.heard(4, 5);
        }
        x.heard(4, 4);
        nearest(x, 4, 7);
        DUE.is("from()", x.from(), 0);
        GateSayings one = Due.laid("g0,0,00000;p00000;");
        for (int i = 1; i <= 8; i++) {
            one.heard(i % 5, 1);
            nearest(one, 0, i);
        }
    }

    private static void byHowTheySayItNow() {
        DUE.says("(by how they say it when that is asked; NEAREST likewise)");
        GateSayings x = Due.laid("g0,40,00000;g0,0,00002;p00001;");
        x.heard(4, 1);
        DUE.is("from()", x.from(), 0);
        nearest(x, 0, 1);
        x.listen(1, 0);
        DUE.is("from() behind a listening", x.from(), 2);
        nearest(x, 1, 0);
        x.ask(0, 0);
        DUE.is("from() behind a drift", x.from(), 3);
        nearest(x, 0, 0);
        x.undo();
        x.undo();
        DUE.is("from() undone", x.from(), 0);
        nearest(x, 0, 1);
    }

    private static void forgotten() {
        DUE.says("Nothing is SEEN, HEARD: how many were, together.");
        GateSayings x = new GateSayings();
        DUE.is("forget() of nothing", x.forget(), 0);
        x.seen(0, 0, 0);
        DUE.is("forget() of a sight", x.forget(), 1);
        x.heard(0, 0);
        DUE.is("forget() of a sound", x.forget(), 1);
        for (int i = 0; i < 9; i++) {
            x.seen(0, 0, 0);
            x.heard(0, 5);
        }
        DUE.is("from()", x.from(), 0);
        DUE.is("kinds(0)", x.kinds(0), 0);
        DUE.is("forget() of all there may be", x.forget(), 14);
        DUE.is("from()", x.from(), 15);
        DUE.is("kinds(0)", x.kinds(0), 15);
        DUE.is("ears(0, 0)", x.ears(0, 0), 41);
        nearest(x, 0, 0);
        DUE.is("count(5)", x.count(5), 0);
        DUE.is("count(6)", x.count(6), 0);
        DUE.is("forget() again", x.forget(), 0);
        Twins.same(DUE, "forget", y -> y.ask(0, 0), y -> {
            y.seen(0, 0, 0);
            y.heard(0, 0);
            y.forget();
        });
    }
}
