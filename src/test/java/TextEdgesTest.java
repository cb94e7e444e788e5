/** Promises 1 to 8, and what the Terms tell of SAYINGS, TEXT, FAULT, LAID and FAR: each sentence at its edges. */
public final class TextEdgesTest {
    private static final Due DUE = new Due("TextEdgesTest");
    private static final int BAD = GateSayings.BAD, NO = GateSayings.NO, FULL = GateSayings.FULL,
        NONE = GateSayings.NONE;
    private static final String FIRST =
        "g0,4,01234;g1,3,31230;g2,5,00555;g3,8,12321;p01333;p55000;p02244;p31212;";
    private static final String GATE = "g0,4,01234;";
    private static final String PERSON = "p01333;";
    /** The longest text without a fault: 107 letters. */
    private static final String LONGEST = "g03,40,55555;".repeat(5) + "p55555;".repeat(6);

    public static void main(String[] args) {
        soundsAndPlaces();
        textsAtMost();
        lettersWritten();
        wiped();
        figuresOfNumbers();
        figuresOfRows();
        whatPartsAnItem();
        lettersOfItems();
        kindsAndEars();
        fiveGates();
        sixPersons();
        faultAtEveryLetter();
        textsThatBreakOff();
        theFirstFault();
        ofAGateAndAPerson();
        laidAtFirst();
        layingForgetsAll();
        farByKind();
        DUE.end();
    }

    private static int faultOf(String text) {
        GateSayings x = new GateSayings();
        Due.write(x, text);
        return x.fault();
    }

    private static void fault(String text, int want) {
        DUE.is("fault() of " + text, faultOf(text), want);
    }

    private static void soundsAndPlaces() {
        DUE.says("A SAYING is a row of five SOUNDS (0 to 5), at places 0 to 4.");
        GateSayings x = Due.laid("g0,7,05050;p50505;");
        DUE.says("Of a GATE: SOUND at a place (what = 0 to 4), KIND (5), EAR (6). BAD.");
        int[] gate = {BAD, 0, 5, 0, 5, 0, 0, 7, BAD};
        for (int what = -1; what <= 7; what++) {
            DUE.is("gate(0, " + what + ")", x.gate(0, what), gate[what + 1]);
        }
        DUE.is("gate(1, 0)", x.gate(1, 0), BAD);
        DUE.is("gate(-1, 0)", x.gate(-1, 0), BAD);
        DUE.says("Of a PERSON: SOUND at a place (what = 0 to 4), the GATE of which it is (5; NONE). BAD.");
        int[] person = {BAD, 5, 0, 5, 0, 5, NONE, BAD};
        for (int what = -1; what <= 6; what++) {
            DUE.is("person(0, " + what + ")", x.person(0, what), person[what + 1]);
        }
        DUE.is("person(1, 0)", x.person(1, 0), BAD);
        DUE.is("person(-1, 0)", x.person(-1, 0), BAD);
        rowsOfFigures();
    }

    private static void rowsOfFigures() {
        DUE.says("SOUNDS (0 to 5), at places 0 to 4.");
        for (int k = 0; k < 5; k++) {
            for (char figure = '0' - 1; figure <= '9' + 1; figure++) {
                StringBuilder row = new StringBuilder("00000");
                row.setCharAt(k, figure);
                int want = figure >= '0' && figure <= '5' ? NONE : 11;
                fault(GATE + "p" + row + ";", want);
                fault(GATE + "g0,0," + row + ";", want);
            }
        }
    }

    private static void textsAtMost() {
        DUE.says("A TEXT is letters (200 at most)");
        GateSayings x = new GateSayings();
        Due.write(x, LONGEST);
        DUE.is("letters of the longest text without a fault", x.count(9), 107);
        DUE.is("its fault()", x.fault(), NONE);
        for (int length = 108; length <= 200; length++) {
            DUE.is("write(';')", x.write(';'), length);
            DUE.is("fault() of " + length + " letters", x.fault(), 107);
        }
        DUE.is("write(';') of a 201st", x.write(';'), FULL);
        DUE.is("count(9)", x.count(9), 200);
        DUE.is("fault() of a full text", x.fault(), 107);
        DUE.is("lay() of a full text", x.lay(), NO);
        GateSayings y = new GateSayings();
        Due.write(y, " ".repeat(200));
        DUE.is("fault() of 200 blanks", y.fault(), 0);
    }

    private static void lettersWritten() {
        DUE.says("A letter (32 to 126, as in ASCII) comes behind THE TEXT: how long it is. BAD; FULL.");
        GateSayings x = new GateSayings();
        for (int letter = 32; letter <= 126; letter++) {
            DUE.is("write(" + letter + ")", x.write(letter), letter - 31);
        }
        for (int letter : new int[] {31, 127, 0, -1, -32, 32 + 256, 126 + 65536, 'g' - 256, Integer.MIN_VALUE}) {
            DUE.is("write(" + letter + ")", x.write(letter), BAD);
        }
        DUE.is("count(9)", x.count(9), 95);
        GateSayings between = new GateSayings();
        for (char letter : (GATE + PERSON).toCharArray()) {
            between.write(letter);
            between.write(31);
            between.write(127);
        }
        DUE.is("what is BAD is not written", between.fault(), NONE);
        DUE.is("lay()", between.lay(), 1);
    }

    private static void wiped() {
        DUE.says("THE TEXT is empty: how long it was.");
        GateSayings x = new GateSayings();
        DUE.is("wipe() of a new object", x.wipe(), 0);
        DUE.is("wipe() of an empty text", x.wipe(), 0);
        x.write('x');
        DUE.is("wipe() of one letter", x.wipe(), 1);
        DUE.is("count(9)", x.count(9), 0);
        DUE.is("fault() of an empty text", x.fault(), NONE);
        Due.write(x, "x".repeat(200));
        DUE.is("write('x') that is FULL", x.write('x'), FULL);
        DUE.is("wipe() of a full text", x.wipe(), 200);
        Due.write(x, GATE + PERSON);
        DUE.is("fault() of what is written then", x.fault(), NONE);
        DUE.is("lay() of it", x.lay(), 1);
        DUE.is("wipe() behind lay", x.wipe(), 18);
        DUE.gate(x, 0, "0,4,01234");
        DUE.is("lay() behind wipe", x.lay(), NO);
        DUE.gate(x, 0, "0,4,01234");
    }

    private static void figuresOfNumbers() {
        DUE.says("numbers: one or two figures");
        String[] so = {"g0,0,", "g00,0,", "g0,00,", "g00,00,", "g3,9,", "g03,09,", "g2,10,", "g02,40,"};
        String[] notSo = {
            "g,0,", "g0,,", "g,,", "g000,0,", "g0,000,", "g0,040,", "g001,0,", "g+1,0,", "g-0,0,", "g0,-1,", "g0,+1,",
            "g 0,0,", "g0 ,0,", "g0, 0,", "g0,0 ,", "g0x,0,", "g0,x,", "g/,0,", "g:,0,", "g0,/,", "g0,:,", "g0,1/,", "g0,1:,",
        };
        for (String head : so) {
            fault(head + "01234;", NONE);
            fault(PERSON + head + "01234;", NONE);
        }
        for (String head : notSo) {
            fault(head + "01234;", 0);
            fault(PERSON + head + "01234;", 7);
        }
        GateSayings x = Due.laid("g03,09,01234;g02,10,01234;g1,40,01234;p00000;");
        DUE.gate(x, 0, "3,9,01234");
        DUE.gate(x, 1, "2,10,01234");
        DUE.gate(x, 2, "1,40,01234");
    }

    private static void figuresOfRows() {
        DUE.says("a row: five figures, one next to the other");
        String[] notSo = {
            "", "0", "0123", "012345", "0123450", "01,234", "0,1,2,3,4", "01 234", " 01234", "01234 ", "-01234", "0123-4", "01a34",
        };
        for (String row : notSo) {
            fault("p" + row + ";", 0);
            fault("g0,0," + row + ";", 0);
            fault(GATE + "p" + row + ";" + PERSON, 11);
            fault(GATE + "g0,0," + row + ";" + PERSON, 11);
        }
    }

    private static void whatPartsAnItem() {
        DUE.says("each a letter, then what it tells, parted by , and a ; behind it");
        String[] notSo = {
            "g0,4,01234", "g0,4,01234,", "g0,4,01234:", "g0,4,01234;;", "g0;4;01234;", "g0.4,01234;", "g0,4.01234;",
            "g0 4 01234;", "g,0,4,01234;", "g0,4,,01234;", "g0,,4,01234;", "g04,01234;", "g0,401234;", "g0,4,;", "g0,4;",
            "g004,01234;", "g0,0401234;", "g0,4001234;", "g0401234;", "g0;", "g;", "p01333", "p01333,", "p,01333;", "p01333.", "p01333;;", "p;", "p",
        };
        for (String item : notSo) {
            int at = item.endsWith(";;") ? item.length() - 1 : 0;
            fault(item, at);
            fault(PERSON + item, PERSON.length() + at);
            fault(item + PERSON, at);
        }
    }

    private static void lettersOfItems() {
        DUE.says("ITEMS one behind the other");
        for (char letter = 32; letter <= 126; letter++) {
            fault(letter + "01333;", letter == 'p' ? NONE : 0);
            fault(letter + "0,4,01234;", letter == 'g' ? NONE : 0);
            fault(GATE + letter + PERSON, 11);
        }
        fault("", NONE);
        fault("01333;", 0);
        fault("0,4,01234;", 0);
        fault("p0,4,01234;", 0);
        fault("g01333;", 0);
        fault(" " + PERSON, 0);
        fault(PERSON + " ", 7);
        fault(PERSON + GATE, NONE);
        fault(GATE + PERSON + GATE + PERSON, NONE);
    }

    private static void kindsAndEars() {
        DUE.says("a GATE of KIND K (0 PLAIN, 1 COUGHING, 2 LONG, 3 SUNG), with an EAR E (0 to 40), that says it W");
        for (int number = 0; number <= 99; number++) {
            fault("g" + number + ",0,01234;", number <= 3 ? NONE : 0);
            fault("g0," + number + ",01234;", number <= 40 ? NONE : 0);
        }
        for (int number = 0; number <= 9; number++) {
            fault("g0" + number + ",0,01234;", number <= 3 ? NONE : 0);
            fault("g0,0" + number + ",01234;", NONE);
        }
        for (int kind = 0; kind <= 3; kind++) {
            GateSayings x = Due.laid("g" + kind + ",0,01234;g0" + kind + ",40,54321;" + PERSON);
            DUE.gate(x, 0, kind + ",0,01234");
            DUE.gate(x, 1, kind + ",40,54321");
        }
    }

    private static void fiveGates() {
        DUE.says("5 at most, 0, 1, ..");
        fault(GATE.repeat(5), NONE);
        fault(GATE.repeat(6), 55);
        fault(GATE.repeat(7), 55);
        fault(GATE.repeat(4) + PERSON + GATE + PERSON + GATE, 69);
        fault(GATE.repeat(5) + "g0,4,0123;", 55);
        fault(GATE.repeat(5) + PERSON.repeat(7), 97);
        fault(GATE.repeat(5) + PERSON.repeat(6) + GATE, 97);
        GateSayings x = Due.laid("g0,0,00000;p00000;g1,1,11111;g2,2,22222;p11111;g3,3,33333;g2,4,44444;");
        String[] due = {"0,0,00000", "1,1,11111", "2,2,22222", "3,3,33333", "2,4,44444"};
        for (int g = 0; g < 5; g++) {
            DUE.gate(x, g, due[g]);
        }
        DUE.is("gate(5, 0)", x.gate(5, 0), BAD);
        DUE.is("count(0)", x.count(0), 5);
    }

    private static void sixPersons() {
        DUE.says("a PERSON who says it W; 6 at most, 0, 1, ..");
        fault(PERSON.repeat(6), NONE);
        fault(PERSON.repeat(7), 42);
        fault(PERSON.repeat(8), 42);
        fault(PERSON.repeat(6) + GATE.repeat(5), NONE);
        fault(PERSON.repeat(5) + GATE + PERSON + GATE + PERSON, 64);
        fault(PERSON.repeat(6) + "p0133;", 42);
        GateSayings x = Due.laid("p00000;g0,0,00000;p11111;p22222;p33333;g0,1,11111;p44444;p55555;");
        for (int p = 0; p < 6; p++) {
            DUE.person(x, p, String.valueOf(p).repeat(5), NONE);
        }
        DUE.is("person(6, 0)", x.person(6, 0), BAD);
        DUE.is("count(1)", x.count(1), 6);
    }

    /** Of each letter of the first town: where its item begins. */
    private static int[] starts() {
        int[] starts = new int[FIRST.length()];
        int start = 0;
        for (int i = 0; i < FIRST.length(); i++) {
            starts[i] = start;
            if (FIRST.charAt(i) == ';') {
                start = i + 1;
            }
        }
        return starts;
    }

    private static void faultAtEveryLetter() {
        DUE.says("FAULT: the place (from 0 on) of the first letter of the first ITEM that is not so.");
        int[] starts = starts();
        for (int i = 0; i < FIRST.length(); i++) {
            for (char wrong : new char[] {' ', 'x', '~'}) {
                fault(FIRST.substring(0, i) + wrong + FIRST.substring(i + 1), starts[i]);
            }
            fault(FIRST.substring(0, i) + "x" + FIRST.substring(i), starts[i]);
        }
    }

    private static void textsThatBreakOff() {
        int[] starts = starts();
        for (int length = 1; length <= FIRST.length(); length++) {
            boolean whole = FIRST.charAt(length - 1) == ';';
            fault(FIRST.substring(0, length), whole ? NONE : starts[length - 1]);
        }
    }

    private static void theFirstFault() {
        fault("x" + FIRST, 0);
        fault(FIRST + "x", FIRST.length());
        fault("p6;" + "g9;", 0);
        fault(PERSON + "g9;" + PERSON + "p6;", 7);
        fault(PERSON + "p6;" + GATE.repeat(6), 7);
        fault(GATE.repeat(6) + "p6;", 55);
        DUE.says("FAULT. NONE.");
        GateSayings x = new GateSayings();
        DUE.is("fault() of an empty text", x.fault(), NONE);
        Due.write(x, PERSON + "x");
        DUE.is("fault()", x.fault(), 7);
        DUE.is("fault() again", x.fault(), 7);
        DUE.is("count(9)", x.count(9), 8);
        DUE.is("count(0): the town stays", x.count(0), 4);
    }

    private static void ofAGateAndAPerson() {
        DUE.says("LAID is a TEXT without FAULT, of a GATE and a PERSON at least (NO else;");
        String[] no = {
            "", GATE, GATE.repeat(5), PERSON, PERSON.repeat(6), GATE + PERSON + "x", "x" + GATE + PERSON, GATE + "p01333",
            GATE.repeat(6) + PERSON, GATE + PERSON.repeat(7),
        };
        for (String text : no) {
            GateSayings x = new GateSayings();
            Due.write(x, text);
            DUE.is("lay() of " + text, x.lay(), NO);
            DUE.is("count(0)", x.count(0), 4);
            DUE.is("count(1)", x.count(1), 4);
            DUE.gate(x, 0, "0,4,01234");
            DUE.person(x, 3, "31212", NONE);
        }
        lays(GATE + PERSON, 1, 1);
        lays(PERSON + GATE, 1, 1);
        lays(LONGEST, 5, 6);
        lays(GATE.repeat(5) + PERSON, 5, 1);
        lays(GATE + PERSON.repeat(6), 1, 6);
    }

    private static void lays(String text, int gates, int persons) {
        GateSayings x = new GateSayings();
        Due.write(x, text);
        DUE.is("lay() of " + text, x.lay(), persons);
        DUE.is("count(0)", x.count(0), gates);
        DUE.is("count(1)", x.count(1), persons);
        DUE.is("count(9)", x.count(9), text.length());
        DUE.is("gate(last, 0)", x.gate(gates - 1, 0) == BAD ? 1 : 0, 0);
        DUE.is("gate(last + 1, 0)", x.gate(gates, 0), BAD);
        DUE.is("person(last, 5)", x.person(persons - 1, 5), NONE);
        DUE.is("person(last + 1, 5)", x.person(persons, 5), BAD);
    }

    private static void laidAtFirst() {
        DUE.says("at first g0,4,01234;g1,3,31230;g2,5,00555;g3,8,12321;p01333;p55000;p02244;p31212;).");
        DUE.says("As told; THE TEXT is empty.");
        GateSayings written = Due.laid(FIRST);
        DUE.is("wipe()", written.wipe(), FIRST.length());
        DUE.text("what is laid at first", Due.stand(new GateSayings()), Due.stand(written));
        GateSayings x = new GateSayings();
        DUE.is("write('x') to an empty text", x.write('x'), 1);
        int[] due = {4, 4, 0, 0, 0, 0, 0, 0, 0, 1};
        for (int what = 0; what < 10; what++) {
            DUE.is("count(" + what + ")", x.count(what), due[what]);
        }
    }

    private static void layingForgetsAll() {
        DUE.says("LAID: how many PERSONS; nobody is of a GATE, nobody was LET IN, SHUT OUT, nothing SEEN, HEARD,"
            + " UNDONE, KEPT (THE TEXT stays). NO.");
        GateSayings x = new GateSayings();
        x.ask(0, 0);
        x.ask(1, 0);
        for (int i = 0; i < 9; i++) {
            x.talk(1, 2);
        }
        x.keep();
        x.keep();
        for (int i = 0; i < 8; i++) {
            x.seen(1, 1, 0);
            x.heard(4, 5);
        }
        DUE.is("count(7) ahead of lay", x.count(7), 8);
        Due.write(x, FIRST);
        DUE.is("lay()", x.lay(), 4);
        DUE.text("as laid at first", Due.stand(x), Due.stand(Due.laid(FIRST)));
        DUE.is("undo()", x.undo(), NO);
        DUE.is("back()", x.back(), NO);
        DUE.is("keep()", x.keep(), 1);
        DUE.is("seen(0, 0, 0)", x.seen(0, 0, 0), 1);
        DUE.is("heard(0, 0)", x.heard(0, 0), 1);
        DUE.is("forget()", x.forget(), 2);
        DUE.is("wipe(): THE TEXT stays", x.wipe(), FIRST.length());
    }

    private static void far(String gate, String person, int want) {
        DUE.is("far of " + person + " from " + gate, Due.laid("g" + gate + ";p" + person + ";").far(0, 0), want);
    }

    private static void farByKind() {
        DUE.says("at all places together how much one SOUND is above or below the other one");
        far("0,0,00000", "00000", 0);
        far("0,0,00000", "55555", 25);
        far("0,0,55555", "00000", 25);
        far("0,0,50505", "05050", 25);
        far("0,0,12345", "21435", 4);
        DUE.says("a COUGHING one does not count the first place");
        far("1,0,00000", "50000", 0);
        far("1,0,00000", "05000", 5);
        far("1,0,00000", "55555", 20);
        far("1,0,55555", "00000", 20);
        DUE.says("a LONG one counts the last place once more");
        far("2,0,00000", "00005", 10);
        far("2,0,00005", "00000", 10);
        far("2,0,00000", "00050", 5);
        far("2,0,00000", "50000", 5);
        far("2,0,00000", "55555", 30);
        DUE.says("a SUNG one counts all twice");
        far("3,0,00000", "00000", 0);
        far("3,0,00000", "50000", 10);
        far("3,0,00005", "00000", 10);
        far("3,0,00000", "55555", 50);
        far("3,0,55555", "00000", 50);
        DUE.says("How FAR a PERSON is from a GATE. BAD.");
        GateSayings x = Due.laid("g0,0,00000;g0,0,11111;p00000;p11111;p22222;");
        DUE.is("far(2, 1)", x.far(2, 1), 5);
        DUE.is("far(3, 1)", x.far(3, 1), BAD);
        DUE.is("far(2, 2)", x.far(2, 2), BAD);
        DUE.is("far(-1, 0)", x.far(-1, 0), BAD);
        DUE.is("far(0, -1)", x.far(0, -1), BAD);
    }
}
