import java.util.ArrayList;
import java.util.List;
import java.util.function.Consumer;

/**
 * BAD, NO, FULL and NONE of every promise: each number of each call one too small, one too large and far
 * off, both its ends, what is answered first where several could be, and that such a call leaves all as it was.
 */
public final class RefusedTest {
    private static final Due DUE = new Due("RefusedTest");
    private static final int BAD = GateSayings.BAD, NO = GateSayings.NO, FULL = GateSayings.FULL,
        NONE = GateSayings.NONE;
    private static final String SMALL = "g0,40,00000;g0,40,00001;p00000;p11111;";
    private static final String LARGEST =
        "g0,40,00000;g1,40,00001;g2,40,00010;g3,40,00100;g0,40,01000;p00000;p11111;p22222;p33333;p44444;p55555;";

    /** The least and the most that a call takes, number by number. */
    private static final class Ranges {
        final String name;
        final int[] leastAndMost;

        Ranges(String name, int... leastAndMost) {
            this.name = name;
            this.leastAndMost = leastAndMost;
        }

        int numbers() {
            return leastAndMost.length / 2;
        }

        int least(int number) {
            return leastAndMost[2 * number];
        }

        int most(int number) {
            return leastAndMost[2 * number + 1];
        }
    }

    public static void main(String[] args) {
        numbersOutOfRange(SMALL, 2, 2);
        numbersOutOfRange("", 4, 4);
        numbersOutOfRange(LARGEST, 5, 6);
        theOnlyOne();
        badAheadOfTheOthers();
        badLeavesAll();
        noLeavesAll();
        fullLeavesAll();
        noneLeavesAll();
        whatOnlyTellsLeavesAll();
        DUE.end();
    }

    private static GateSayings town(String text) {
        return text.isEmpty() ? new GateSayings() : Due.laid(text);
    }

    private static List<Ranges> calls(int gates, int persons) {
        int g = gates - 1;
        int p = persons - 1;
        return List.of(
            new Ranges("write", 32, 126), new Ranges("gate", 0, g, 0, 6), new Ranges("person", 0, p, 0, 5),
            new Ranges("far", 0, p, 0, g), new Ranges("ask", 0, p, 0, g), new Ranges("talk", 0, p, 0, p),
            new Ranges("listen", 0, g, 0, g), new Ranges("opens", 0, p), new Ranges("best", -1, 4),
            new Ranges("middle", -1, 4), new Ranges("lessons", 0, p, 0, g, 0, 1), new Ranges("apart", 0, 1),
            new Ranges("crosses", 0, p, 0, g, 0, g), new Ranges("seen", 0, p, 0, g, 0, 1), new Ranges("kinds", 0, g),
            new Ranges("ears", 0, g, 0, 1), new Ranges("heard", 0, 4, 0, 5), new Ranges("nearest", 0, 1),
            new Ranges("likely", 0, p, 0, g, 0, 10, 0, 1), new Ranges("year", 0, 9999, 1, 60, 0, 2),
            new Ranges("count", 0, 9));
    }

    /** With those that would be told again by a number that is cut to fewer bits, or wraps around. */
    private static int[] outOf(int least, int most) {
        return new int[] {
            least - 1, least - 2, most + 1, most + 2, least - 256, least + 256, most + 65536, least + (1 << 30),
            least + Integer.MIN_VALUE, Integer.MIN_VALUE, Integer.MAX_VALUE,
        };
    }

    private static void numbersOutOfRange(String text, int gates, int persons) {
        DUE.says("BAD: a number is none that is told (GATES, PERSONS: such as there are; places 0 to 4, SOUNDS 0 to 5).");
        for (Ranges call : calls(gates, persons)) {
            for (int[] within : ends(call)) {
                answered(text, call, within, false);
                for (int number = 0; number < call.numbers(); number++) {
                    for (int wrong : outOf(call.least(number), call.most(number))) {
                        if (wrong < call.least(number) || wrong > call.most(number)) {
                            int[] numbers = within.clone();
                            numbers[number] = wrong;
                            answered(text, call, numbers, true);
                        }
                    }
                }
            }
        }
    }

    /** Each number at its least and at its most, all ways; four numbers, those that are not looked at 0. */
    private static List<int[]> ends(Ranges call) {
        List<int[]> all = new ArrayList<>();
        for (int bits = 0; bits < 1 << call.numbers(); bits++) {
            int[] numbers = new int[4];
            for (int number = 0; number < call.numbers(); number++) {
                numbers[number] = (bits >> number & 1) == 0 ? call.least(number) : call.most(number);
            }
            all.add(numbers);
        }
        return all;
    }

    private static boolean bothAlike(Ranges call, int[] numbers) {
        switch (call.name) {
            case "talk": case "listen": return numbers[0] == numbers[1];
            case "crosses": return numbers[1] == numbers[2];
            default: return false;
        }
    }

    private static void answered(String text, Ranges call, int[] numbers, boolean bad) {
        int got = Calls.answer(town(text), call.name, numbers[0], numbers[1], numbers[2], numbers[3]);
        String told = call.name + "(" + numbers[0] + ", " + numbers[1] + ", " + numbers[2] + ", " + numbers[3] + ")";
        boolean due = bad || bothAlike(call, numbers);
        DUE.is("whether " + told + " of " + text + ", " + got + ", is BAD", got == BAD ? 1 : 0, due ? 1 : 0);
    }

    /** Where there is one gate and one person, there is none to talk with, to listen to, to cross to. */
    private static void theOnlyOne() {
        DUE.says("(GATES, PERSONS: such as there are;");
        GateSayings x = Due.laid("g0,40,00000;p00000;");
        for (int one = -1; one <= 2; one++) {
            for (int other = -1; other <= 2; other++) {
                DUE.is("talk(" + one + ", " + other + ")", x.talk(one, other), BAD);
                DUE.is("listen(" + one + ", " + other + ")", x.listen(one, other), BAD);
                DUE.is("crosses(0, " + one + ", " + other + ")", x.crosses(0, one, other), BAD);
            }
        }
        DUE.is("ask(0, 1)", x.ask(0, 1), BAD);
        DUE.is("ask(1, 0)", x.ask(1, 0), BAD);
        DUE.is("ask(0, 0)", x.ask(0, 0), 1);
        DUE.says("BAD (alike, too)");
        GateSayings two = Due.laid(SMALL);
        for (int i = 0; i < 2; i++) {
            DUE.is("talk(" + i + ", " + i + ")", two.talk(i, i), BAD);
            DUE.is("listen(" + i + ", " + i + ")", two.listen(i, i), BAD);
            DUE.is("crosses(0, " + i + ", " + i + ")", two.crosses(0, i, i), BAD);
        }
        DUE.is("count(7)", two.count(7), 0);
    }

    private static void badAheadOfTheOthers() {
        DUE.says("Of several the first in this order; nothing changes then.");
        GateSayings x = Due.laid("g0,0,00000;g0,0,00000;p00005;p00005;");
        for (int i = 0; i < 6; i++) {
            x.seen(0, 0, i % 2);
        }
        for (int i = 0; i < 8; i++) {
            x.heard(0, 0);
        }
        Due.fill(x, 'p');
        DUE.is("write(127), FULL else", x.write(127), BAD);
        DUE.is("seen(2, 0, 0), FULL else", x.seen(2, 0, 0), BAD);
        DUE.is("seen(0, 2, 0), FULL else", x.seen(0, 2, 0), BAD);
        DUE.is("seen(0, 0, 2), FULL else", x.seen(0, 0, 2), BAD);
        DUE.is("heard(5, 0), FULL else", x.heard(5, 0), BAD);
        DUE.is("heard(0, 6), FULL else", x.heard(0, 6), BAD);
        DUE.is("talk(0, 0), NO else", x.talk(0, 0), BAD);
        DUE.is("listen(1, 1), NO else", x.listen(1, 1), BAD);
        DUE.is("apart(2), NONE else", x.apart(2), BAD);
        DUE.is("apart(-1), NONE else", x.apart(-1), BAD);
        DUE.is("lessons(0, 0, 2), NONE else", x.lessons(0, 0, 2), BAD);
        DUE.is("lessons(0, 0, -1), NONE else", x.lessons(0, 0, -1), BAD);
        DUE.is("ears(0, 2), NONE else", x.ears(0, 2), BAD);
        DUE.is("ears(0, -1), NONE else", x.ears(0, -1), BAD);
        DUE.is("crosses(2, 0, 1), 0 else", x.crosses(2, 0, 1), BAD);
        DUE.is("crosses(0, 0, 0), 0 else", x.crosses(0, 0, 0), BAD);
        x.listen(0, 1);
        GateSayings shut = Due.laid("g0,0,00000;g0,0,00001;p00005;");
        DUE.is("crosses(0, 1, 1), NONE else", shut.crosses(0, 1, 1), BAD);
        DUE.is("crosses(1, 0, 1), NONE else", shut.crosses(1, 0, 1), BAD);
        DUE.is("person(0, 6), NONE for 5", shut.person(0, 6), BAD);
    }

    /** Something of everything: five acts can be undone, two towns are kept, three sights, two sounds, letters. */
    private static void busy(GateSayings x) {
        Due.write(x, "g0,9,00000;g0,0,50000;p12000;p12001;");
        x.lay();
        x.ask(0, 0);
        x.keep();
        x.ask(0, 1);
        x.talk(1, 0);
        x.keep();
        x.listen(1, 0);
        x.ask(1, 0);
        x.seen(0, 0, 1);
        x.seen(1, 1, 0);
        x.seen(1, 0, 1);
        x.heard(0, 0);
        x.heard(3, 1);
        x.wipe();
        Due.write(x, "g1,8,12345;p54321;");
    }

    private static void badLeavesAll() {
        DUE.says("nothing changes then.");
        for (Ranges call : calls(2, 2)) {
            Twins.same(DUE, call.name + " that is BAD", RefusedTest::busy, x -> {
                for (int number = 0; number < call.numbers(); number++) {
                    for (int wrong : new int[] {call.least(number) - 1, call.most(number) + 1}) {
                        int[] numbers = ends(call).get(0).clone();
                        numbers[number] = wrong;
                        DUE.is(call.name + " of " + wrong, Calls.answer(x, call.name, numbers[0], numbers[1], numbers[2],
                            numbers[3]), BAD);
                    }
                }
            });
        }
        Twins.same(DUE, "both alike", RefusedTest::busy, x -> {
            DUE.is("talk(1, 1)", x.talk(1, 1), BAD);
            DUE.is("listen(1, 1)", x.listen(1, 1), BAD);
            DUE.is("crosses(0, 1, 1)", x.crosses(0, 1, 1), BAD);
        });
    }

    /** Of persons the first two, of gates the last two say it alike. */
    private static void alike(GateSayings x) {
        Due.write(x, "g0,9,00000;g1,0,00000;g0,0,00000;p00000;p00000;p50000;");
        x.lay();
        x.ask(0, 0);
        x.keep();
        x.ask(2, 0);
        x.seen(0, 0, 1);
        x.heard(0, 0);
    }

    private static void noLeavesAll() {
        DUE.says("NO: not as things stand.");
        Twins.same(DUE, "talk, listen that are NO", RefusedTest::alike, x -> {
            DUE.is("talk(0, 1)", x.talk(0, 1), NO);
            DUE.is("talk(1, 0)", x.talk(1, 0), NO);
            DUE.is("listen(1, 2)", x.listen(1, 2), NO);
            DUE.is("listen(2, 1)", x.listen(2, 1), NO);
        });
        for (String text : new String[] {"", "g0,0,00000;", "p00000;", "g0,0,00000;p00000;x", "g0,0,00000;p00000"}) {
            Twins.same(DUE, "lay of " + text, x -> {
                busy(x);
                x.wipe();
                Due.write(x, text);
            }, x -> DUE.is("lay() of " + text, x.lay(), NO));
        }
        Consumer<GateSayings> noActs = x -> {
            x.seen(0, 0, 0);
            x.heard(1, 2);
            x.keep();
            Due.write(x, "p00000;");
        };
        Twins.same(DUE, "undo of nothing", noActs, x -> DUE.is("undo()", x.undo(), NO));
        Consumer<GateSayings> nothingKept = x -> {
            x.ask(0, 0);
            x.ask(3, 0);
            x.seen(0, 0, 0);
            x.heard(1, 2);
            Due.write(x, "p00000;");
        };
        Twins.same(DUE, "back of nothing", nothingKept, x -> DUE.is("back()", x.back(), NO));
    }

    private static void fullLeavesAll() {
        Twins.same(DUE, "keep of a third", RefusedTest::busy, x -> DUE.is("keep()", x.keep(), FULL));
        Twins.same(DUE, "a seventh sight", x -> {
            busy(x);
            x.seen(0, 0, 1);
            x.seen(1, 0, 1);
            x.seen(0, 1, 1);
        }, x -> {
            DUE.is("seen(0, 0, 0)", x.seen(0, 0, 0), FULL);
            DUE.is("seen(1, 1, 1)", x.seen(1, 1, 1), FULL);
        });
        Twins.same(DUE, "a ninth sound", x -> {
            busy(x);
            for (int i = 0; i < 6; i++) {
                x.heard(i % 5, 0);
            }
        }, x -> {
            DUE.is("heard(4, 5)", x.heard(4, 5), FULL);
            DUE.is("heard(0, 1)", x.heard(0, 1), FULL);
        });
        Twins.same(DUE, "a 201st letter", x -> {
            x.ask(0, 0);
            Due.write(x, "g1,8,12345;p54321;".repeat(11) + "g1");
        }, x -> {
            DUE.is("write(';')", x.write(';'), FULL);
            DUE.is("count(9)", x.count(9), 200);
        });
    }

    private static void noneLeavesAll() {
        DUE.says("NONE: there is none.");
        Twins.same(DUE, "what is NONE", RefusedTest::alike, x -> {
            DUE.is("apart(0)", x.apart(0), NONE);
            DUE.is("apart(1)", x.apart(1), NONE);
            DUE.is("person(1, 5)", x.person(1, 5), NONE);
            DUE.is("fault()", x.fault(), NONE);
        });
        Twins.same(DUE, "lessons that are NONE", RefusedTest::busy, x -> {
            DUE.is("lessons(0, 1, 0)", x.lessons(0, 1, 0), NONE);
            DUE.is("lessons(0, 1, 1)", x.lessons(0, 1, 1), NONE);
        });
        Twins.same(DUE, "crosses that are NONE", RefusedTest::busy,
            x -> DUE.is("crosses(0, 0, 1)", x.crosses(0, 0, 1), NONE));
    }

    private static void whatOnlyTellsLeavesAll() {
        DUE.says("it is tried, nothing changes");
        DUE.says("(nothing changes by it)");
        String[] telling = {
            "fault", "gate", "person", "far", "opens", "best", "middle", "lessons", "apart", "crosses", "kinds", "ears",
            "from", "nearest", "likely", "year", "count",
        };
        for (String name : telling) {
            Twins.same(DUE, name, RefusedTest::busy, x -> {
                for (int a = 0; a < 2; a++) {
                    for (int b = 0; b < 2; b++) {
                        for (int c = 0; c < 2; c++) {
                            Calls.answer(x, name, a, name.equals("year") ? 60 - b : b, c, 1);
                        }
                    }
                }
            });
        }
    }
}
