/**
 * A town whose gates let in who says its name nearly as they do. ../shared/DOC.md tells what each
 * method promises; the numbers of its promises stand in the comments here.
 */
public final class GateSayings {
    public static final int BAD = -1, NO = -2, FULL = -3, NONE = -4;

    private static final int PLACES = 5;
    private static final int SOUNDS = 6;
    private static final int MOST_GATES = 5;
    private static final int MOST_PERSONS = 6;
    private static final int MOST_EAR = 40;
    private static final int MOST_LETTERS = 200;
    private static final int MOST_UNDONE = 8;
    private static final int MOST_KEPT = 2;
    private static final int MOST_SEEN = 6;
    private static final int MOST_HEARD = 8;
    private static final int MOST_LESSONS = 30;
    private static final int MOST_CROSSES = 60;
    private static final int MOST_SEED = 9999;
    private static final int MOST_TIMES = 60;
    private static final int TENTHS = 10;

    private static final int COUGHING = 1, LONG = 2, SUNG = 3;

    private static final String FIRST_TOWN =
        "g0,4,01234;g1,3,31230;g2,5,00555;g3,8,12321;p01333;p55000;p02244;p31212;";

    private final Script script = new Script();
    private final Town town = new Town();
    /** For what is only tried: a text being read, a year, crossings. */
    private final Town trial = new Town();
    private final Shelf past = new Shelf(MOST_UNDONE);
    private final Shelf kept = new Shelf(MOST_KEPT);
    private final Witness witness = new Witness();
    private final BestSearch bestSearch = new BestSearch();
    private final LessonSearch lessonSearch = new LessonSearch();

    /** Promise 1. */
    public GateSayings() {
        for (int i = 0; i < FIRST_TOWN.length(); i++) {
            script.append(FIRST_TOWN.charAt(i));
        }
        script.readInto(town);
        script.length = 0;
    }

    // ---- towns

    /** Promise 2. */
    public int write(int letter) {
        if (!within(letter, 32, 126)) {
            return BAD;
        }
        return script.append((char) letter) ? script.length : FULL;
    }

    /** Promise 3. */
    public int wipe() {
        int length = script.length;
        script.length = 0;
        return length;
    }

    /** Promise 4. */
    public int fault() {
        return script.readInto(trial);
    }

    /** Promise 5. */
    public int lay() {
        if (script.readInto(trial) != NONE || trial.gates < 1 || trial.persons < 1) {
            return NO;
        }
        town.copyFrom(trial);
        witness.clear();
        past.clear();
        kept.clear();
        return town.persons;
    }

    /** Promise 6. */
    public int gate(int g, int what) {
        if (!town.isGate(g) || !within(what, 0, PLACES + 1)) {
            return BAD;
        }
        if (what == PLACES) {
            return town.kind[g];
        }
        if (what == PLACES + 1) {
            return town.ear[g];
        }
        return Saying.soundAt(town.gateSaying[g], what);
    }

    /** Promise 7. */
    public int person(int p, int what) {
        if (!town.isPerson(p) || !within(what, 0, PLACES)) {
            return BAD;
        }
        return what == PLACES ? town.home[p] : Saying.soundAt(town.personSaying[p], what);
    }

    /** Promise 8. */
    public int far(int p, int g) {
        if (!town.isPerson(p) || !town.isGate(g)) {
            return BAD;
        }
        return town.distance(town.personSaying[p], g, town.kind[g]);
    }

    // ---- acts

    /** Promise 9. */
    public int ask(int p, int g) {
        if (!town.isPerson(p) || !town.isGate(g)) {
            return BAD;
        }
        past.put(town);
        return town.visit(p, g) ? 1 : 0;
    }

    /** Promise 10. */
    public int talk(int p, int q) {
        if (!town.isPerson(p) || !town.isPerson(q) || p == q) {
            return BAD;
        }
        return follow(town.personSaying, p, q);
    }

    /** Promise 11. */
    public int listen(int g, int h) {
        if (!town.isGate(g) || !town.isGate(h) || g == h) {
            return BAD;
        }
        return follow(town.gateSaying, g, h);
    }

    /** Promise 12. */
    public int undo() {
        return past.takeInto(town) ? past.held : NO;
    }

    // ---- what is best

    /** Promise 13. */
    public int opens(int p) {
        if (!town.isPerson(p)) {
            return BAD;
        }
        int open = 0;
        for (int g = 0; g < town.gates; g++) {
            if (town.admits(town.personSaying[p], g)) {
                open |= 1 << g;
            }
        }
        return open;
    }

    /** Promise 14. */
    public int best(int k) {
        if (!within(k, -1, PLACES - 1)) {
            return BAD;
        }
        bestSearch.run(town);
        return k == -1 ? bestSearch.most : Saying.soundAt(bestSearch.saying, k);
    }

    /** Promise 15. What is least far at each place for itself is least far in all. */
    public int middle(int k) {
        if (!within(k, -1, PLACES - 1)) {
            return BAD;
        }
        if (k >= 0) {
            return town.middleSound(k);
        }
        int together = 0;
        for (int place = 0; place < PLACES; place++) {
            together += town.farTogether(place, town.middleSound(place));
        }
        return together;
    }

    /** Promise 16. */
    public int lessons(int p, int g, int what) {
        if (!town.isPerson(p) || !town.isGate(g) || !within(what, 0, 1)) {
            return BAD;
        }
        lessonSearch.run(town, p, g);
        return what == 0 ? lessonSearch.fewest : lessonSearch.firstPartner;
    }

    /** Promise 17. */
    public int apart(int what) {
        if (!within(what, 0, 1)) {
            return BAD;
        }
        int found = NONE;
        int fewest = PLACES + 1;
        for (int places = 0; places < 1 << PLACES; places++) {
            int size = Integer.bitCount(places);
            if (size < fewest && town.differsEverywhere(places)) {
                found = places;
                fewest = size;
            }
        }
        return found == NONE || what == 1 ? found : fewest;
    }

    /** Promise 18. */
    public int crosses(int p, int g, int h) {
        if (!town.isPerson(p) || !town.isGate(g) || !town.isGate(h) || g == h) {
            return BAD;
        }
        trial.copyFrom(town);
        for (int asked = 0; asked < MOST_CROSSES; asked++) {
            if (trial.gateSaying[g] == trial.gateSaying[h]) {
                return asked;
            }
            if (!trial.visit(p, asked % 2 == 0 ? g : h)) {
                return NONE;
            }
        }
        return trial.gateSaying[g] == trial.gateSaying[h] ? MOST_CROSSES : NONE;
    }

    // ---- what was seen, heard

    /** Promise 19. */
    public int seen(int p, int g, int in) {
        if (!town.isPerson(p) || !town.isGate(g) || !within(in, 0, 1)) {
            return BAD;
        }
        return witness.noteSeen(p, g, in == 1) ? witness.sights : FULL;
    }

    /** Promise 20. */
    public int kinds(int g) {
        if (!town.isGate(g)) {
            return BAD;
        }
        int fitting = 0;
        for (int kind = 0; kind <= SUNG; kind++) {
            if (witness.fits(town, g, kind, town.ear[g])) {
                fitting |= 1 << kind;
            }
        }
        return fitting;
    }

    /** Promise 21. */
    public int ears(int g, int what) {
        if (!town.isGate(g) || !within(what, 0, 1)) {
            return BAD;
        }
        int fitting = 0;
        int least = NONE;
        for (int ear = MOST_EAR; ear >= 0; ear--) {
            if (witness.fits(town, g, town.kind[g], ear)) {
                fitting++;
                least = ear;
            }
        }
        return what == 0 ? fitting : least;
    }

    /** Promise 22. */
    public int heard(int k, int sound) {
        if (!within(k, 0, PLACES - 1) || !within(sound, 0, SOUNDS - 1)) {
            return BAD;
        }
        return witness.noteHeard(k, sound) ? witness.hearings : FULL;
    }

    /** Promise 23. */
    public int from() {
        int possible = 0;
        for (int g = 0; g < town.gates; g++) {
            if (witness.misses(town.gateSaying[g]) == 0) {
                possible |= 1 << g;
            }
        }
        return possible;
    }

    /** Promise 24. */
    public int nearest(int what) {
        if (!within(what, 0, 1)) {
            return BAD;
        }
        int which = 0;
        int fewest = MOST_HEARD + 1;
        for (int g = 0; g < town.gates; g++) {
            int misses = witness.misses(town.gateSaying[g]);
            if (misses < fewest) {
                which = g;
                fewest = misses;
            }
        }
        return what == 0 ? which : fewest;
    }

    /** Promise 25. */
    public int forget() {
        int together = witness.sights + witness.hearings;
        witness.clear();
        return together;
    }

    // ---- chances, years

    /** Promise 26. */
    public int likely(int p, int g, int x, int part) {
        if (!town.isPerson(p) || !town.isGate(g) || !within(x, 0, TENTHS) || !within(part, 0, 1)) {
            return BAD;
        }
        int above = 0;
        int below = 0;
        for (int mistaken = 0; mistaken < 1 << PLACES; mistaken++) {
            int weight = chance(mistaken, x);
            below += weight;
            if (town.admits(Saying.misheard(town.personSaying[p], mistaken), g)) {
                above += weight;
            }
        }
        int common = commonDivisor(above, below);
        if (common < 1) {
            return part == 0 ? above : below;
        }
        return part == 0 ? above / common : below / common;
    }

    /** Promise 27. */
    public int year(int z, int n, int what) {
        if (!within(z, 0, MOST_SEED) || !within(n, 1, MOST_TIMES) || !within(what, 0, 2)) {
            return BAD;
        }
        trial.copyFrom(town);
        for (int time = 0; time < n; time++) {
            liveOnce(trial, draw(z, time));
        }
        if (what == 0) {
            return trial.letIn - town.letIn;
        }
        return what == 1 ? trial.shutOut - town.shutOut : trial.settled();
    }

    // ---- kept

    /** Promise 28. */
    public int keep() {
        if (kept.held >= MOST_KEPT) {
            return FULL;
        }
        kept.put(town);
        return kept.held;
    }

    /** Promise 29. */
    public int back() {
        if (!kept.takeInto(town)) {
            return NO;
        }
        past.clear();
        return kept.held;
    }

    /** Promise 30. */
    public int count(int what) {
        switch (what) {
            case 0: return town.gates;
            case 1: return town.persons;
            case 2: return town.letIn;
            case 3: return town.shutOut;
            case 4: return town.settled();
            case 5: return witness.sights;
            case 6: return witness.hearings;
            case 7: return past.held;
            case 8: return kept.held;
            case 9: return script.length;
            default: return BAD;
        }
    }

    // ---- what several of them use

    private static boolean within(int number, int least, int most) {
        return number >= least && number <= most;
    }

    /** The one saying of the town's row comes nearer to the other one: at which place, or NO. */
    private int follow(int[] sayings, int one, int other) {
        int place = Saying.firstDifference(sayings[one], sayings[other]);
        if (place == NONE) {
            return NO;
        }
        past.put(town);
        sayings[one] = Saying.nearer(sayings[one], sayings[other], place);
        return place;
    }

    /** How many of 10 to the fifth times just these places are heard wrong. */
    private static int chance(int mistaken, int x) {
        int weight = 1;
        for (int place = 0; place < PLACES; place++) {
            weight *= (mistaken >> place & 1) == 1 ? x : TENTHS - x;
        }
        return weight;
    }

    /** Euclid's way; two numbers of an int need fewer than 64 steps. */
    private static int commonDivisor(int a, int b) {
        int greater = a;
        int less = b;
        for (int step = 0; step < 64 && less != 0; step++) {
            int rest = greater % less;
            greater = less;
            less = rest;
        }
        return greater;
    }

    private static int draw(int z, int time) {
        long x = 7919L * z + 6151L * time + 1L;
        return (int) (x * x % 65521L / 2L);
    }

    private static void liveOnce(Town where, int draw) {
        if (where.persons < 1 || where.gates < 1) {
            return;
        }
        int p = draw % where.persons;
        if (draw / 64 % 4 != 0) {
            where.visit(p, draw / 8 % where.gates);
        } else {
            // A lone person is next to itself, and differs nowhere from itself.
            where.converse(p, (p + 1) % where.persons);
        }
    }

    /** A saying is one int: three bits a place, place 0 in the lowest ones. */
    private static final class Saying {
        /** Above every such int. */
        static final int CODES = 1 << 3 * PLACES;

        static int soundAt(int saying, int place) {
            return saying >> 3 * place & 7;
        }

        static int withSound(int saying, int place, int sound) {
            return saying & ~(7 << 3 * place) | sound << 3 * place;
        }

        static int gapAt(int one, int other, int place) {
            return Math.abs(soundAt(one, place) - soundAt(other, place));
        }

        static int firstDifference(int one, int other) {
            for (int place = 0; place < PLACES; place++) {
                if (gapAt(one, other, place) > 0) {
                    return place;
                }
            }
            return NONE;
        }

        static int widestDifference(int one, int other) {
            int widest = NONE;
            int gap = 0;
            for (int place = 0; place < PLACES; place++) {
                if (gapAt(one, other, place) > gap) {
                    widest = place;
                    gap = gapAt(one, other, place);
                }
            }
            return widest;
        }

        /** The saying, its sound at the place one nearer to the goal's; the same where place is NONE. */
        static int nearer(int saying, int goal, int place) {
            if (place == NONE) {
                return saying;
            }
            int sound = soundAt(saying, place);
            return withSound(saying, place, sound + Integer.compare(soundAt(goal, place), sound));
        }

        /** As a gate hears it that takes the sounds at the mistaken places (bits) for the next ones. */
        static int misheard(int saying, int mistaken) {
            int told = saying;
            for (int place = 0; place < PLACES; place++) {
                if ((mistaken >> place & 1) == 1) {
                    told = withSound(told, place, (soundAt(saying, place) + 1) % SOUNDS);
                }
            }
            return told;
        }
    }

    /** Gates and persons as they stand, and what became of those who asked. */
    private static final class Town {
        final int[] kind = new int[MOST_GATES];
        final int[] ear = new int[MOST_GATES];
        final int[] gateSaying = new int[MOST_GATES];
        final int[] personSaying = new int[MOST_PERSONS];
        /** The gate of which a person is, or NONE. */
        final int[] home = new int[MOST_PERSONS];
        int gates;
        int persons;
        int letIn;
        int shutOut;

        void clear() {
            gates = 0;
            persons = 0;
            letIn = 0;
            shutOut = 0;
        }

        void copyFrom(Town other) {
            System.arraycopy(other.kind, 0, kind, 0, MOST_GATES);
            System.arraycopy(other.ear, 0, ear, 0, MOST_GATES);
            System.arraycopy(other.gateSaying, 0, gateSaying, 0, MOST_GATES);
            System.arraycopy(other.personSaying, 0, personSaying, 0, MOST_PERSONS);
            System.arraycopy(other.home, 0, home, 0, MOST_PERSONS);
            gates = other.gates;
            persons = other.persons;
            letIn = other.letIn;
            shutOut = other.shutOut;
        }

        boolean isGate(int g) {
            return g >= 0 && g < gates;
        }

        boolean isPerson(int p) {
            return p >= 0 && p < persons;
        }

        /** False if there are as many gates as there may be. */
        boolean addGate(int itsKind, int itsEar, int saying) {
            if (gates >= MOST_GATES) {
                return false;
            }
            kind[gates] = itsKind;
            ear[gates] = itsEar;
            gateSaying[gates] = saying;
            gates++;
            return true;
        }

        /** False if there are as many persons as there may be. */
        boolean addPerson(int saying) {
            if (persons >= MOST_PERSONS) {
                return false;
            }
            personSaying[persons] = saying;
            home[persons] = NONE;
            persons++;
            return true;
        }

        /** How often a gate of this kind counts the place. */
        static int weight(int itsKind, int place) {
            if (itsKind == SUNG || itsKind == LONG && place == PLACES - 1) {
                return 2;
            }
            return itsKind == COUGHING && place == 0 ? 0 : 1;
        }

        /** How far the sound at this place alone is from the gate, if that were of this kind. */
        int distanceAt(int place, int sound, int g, int itsKind) {
            return weight(itsKind, place) * Math.abs(sound - Saying.soundAt(gateSaying[g], place));
        }

        /** How far the saying is from the gate, if that were of this kind. */
        int distance(int saying, int g, int itsKind) {
            int sum = 0;
            for (int place = 0; place < PLACES; place++) {
                sum += distanceAt(place, Saying.soundAt(saying, place), g, itsKind);
            }
            return sum;
        }

        boolean admits(int saying, int g) {
            return distance(saying, g, kind[g]) <= ear[g];
        }

        /** The person asks at the gate, and both drift if it is let in: whether it is. */
        boolean visit(int p, int g) {
            int said = personSaying[p];
            int due = gateSaying[g];
            if (!admits(said, g)) {
                shutOut++;
                return false;
            }
            letIn++;
            home[p] = g;
            gateSaying[g] = Saying.nearer(due, said, Saying.widestDifference(due, said));
            personSaying[p] = Saying.nearer(said, due, Saying.firstDifference(said, due));
            return true;
        }

        /** The person talks with the other one; nothing happens if they differ nowhere. */
        void converse(int p, int q) {
            int mine = personSaying[p];
            int theirs = personSaying[q];
            personSaying[p] = Saying.nearer(mine, theirs, Saying.firstDifference(mine, theirs));
        }

        int settled() {
            int sum = 0;
            for (int p = 0; p < persons; p++) {
                if (home[p] != NONE) {
                    sum++;
                }
            }
            return sum;
        }

        /** How far a sound at the place is from all gates together. */
        int farTogether(int place, int sound) {
            int sum = 0;
            for (int g = 0; g < gates; g++) {
                sum += distanceAt(place, sound, g, kind[g]);
            }
            return sum;
        }

        /** The sound that is least far at the place from all gates together. */
        int middleSound(int place) {
            int middle = 0;
            for (int sound = 1; sound < SOUNDS; sound++) {
                if (farTogether(place, sound) < farTogether(place, middle)) {
                    middle = sound;
                }
            }
            return middle;
        }

        /** Whether the sounds at these places (bits) tell all gates from one another. */
        boolean differsEverywhere(int places) {
            int bits = 0;
            for (int place = 0; place < PLACES; place++) {
                if ((places >> place & 1) == 1) {
                    bits |= 7 << 3 * place;
                }
            }
            for (int g = 0; g < gates; g++) {
                for (int h = 0; h < g; h++) {
                    if ((gateSaying[g] & bits) == (gateSaying[h] & bits)) {
                        return false;
                    }
                }
            }
            return true;
        }
    }

    /** Towns as they stood, the latest on top; when it is full, the oldest one falls out. */
    private static final class Shelf {
        final Town[] towns;
        int held;

        Shelf(int room) {
            towns = new Town[Math.max(room, 1)];
            for (int i = 0; i < towns.length; i++) {
                towns[i] = new Town();
            }
        }

        void clear() {
            held = 0;
        }

        void put(Town standing) {
            if (held >= towns.length) {
                dropOldest();
            }
            Town top = towns[held];
            if (top != null) {
                top.copyFrom(standing);
                held++;
            }
        }

        /** The town becomes as the latest one on the shelf, which leaves it: false if there is none. */
        boolean takeInto(Town changed) {
            if (held < 1) {
                return false;
            }
            Town top = towns[held - 1];
            if (top == null) {
                return false;
            }
            changed.copyFrom(top);
            held--;
            return true;
        }

        /** Its row goes to the end of the shelf, to be used again. */
        private void dropOldest() {
            Town oldest = towns[0];
            for (int i = 1; i < towns.length; i++) {
                towns[i - 1] = towns[i];
            }
            towns[towns.length - 1] = oldest;
            held = towns.length - 1;
        }
    }

    /** The text, and a reader that goes through it. */
    private static final class Script {
        final char[] letters = new char[MOST_LETTERS];
        int length;
        /** Where the reader is. */
        int at;

        boolean append(char letter) {
            if (length >= MOST_LETTERS) {
                return false;
            }
            letters[length] = letter;
            length++;
            return true;
        }

        /** The town that the text tells: NONE, or the place of the first item that is not so. */
        int readInto(Town told) {
            told.clear();
            at = 0;
            for (int items = 0; items < MOST_LETTERS && at < length; items++) {
                int start = at;
                if (!readGate(told)) {
                    at = start;
                    if (!readPerson(told)) {
                        return start;
                    }
                }
            }
            return NONE;
        }

        private boolean readGate(Town told) {
            if (!takes('g')) {
                return false;
            }
            int kind = takeNumber();
            if (!within(kind, 0, SUNG) || !takes(',')) {
                return false;
            }
            int ear = takeNumber();
            if (!within(ear, 0, MOST_EAR) || !takes(',')) {
                return false;
            }
            int saying = takeSaying();
            return saying != NONE && takes(';') && told.addGate(kind, ear, saying);
        }

        private boolean readPerson(Town told) {
            if (!takes('p')) {
                return false;
            }
            int saying = takeSaying();
            return saying != NONE && takes(';') && told.addPerson(saying);
        }

        private boolean takes(char letter) {
            if (at >= length || letters[at] != letter) {
                return false;
            }
            at++;
            return true;
        }

        /** The next figure, or NONE; a figure is gone by. */
        private int takeFigure() {
            if (at >= length || !within(letters[at], '0', '9')) {
                return NONE;
            }
            at++;
            return letters[at - 1] - '0';
        }

        /** A number of one or two figures, or NONE. */
        private int takeNumber() {
            int first = takeFigure();
            if (first == NONE) {
                return NONE;
            }
            int second = takeFigure();
            return second == NONE ? first : 10 * first + second;
        }

        /** A row of five sounds, or NONE. */
        private int takeSaying() {
            int saying = 0;
            for (int place = 0; place < PLACES; place++) {
                int sound = takeFigure();
                if (!within(sound, 0, SOUNDS - 1)) {
                    return NONE;
                }
                saying = Saying.withSound(saying, place, sound);
            }
            return saying;
        }
    }

    /** What is seen and heard. It is weighed against a town as that stands when asked. */
    private static final class Witness {
        final int[] seenPerson = new int[MOST_SEEN];
        final int[] seenGate = new int[MOST_SEEN];
        final boolean[] seenIn = new boolean[MOST_SEEN];
        final int[] heardPlace = new int[MOST_HEARD];
        final int[] heardSound = new int[MOST_HEARD];
        int sights;
        int hearings;

        void clear() {
            sights = 0;
            hearings = 0;
        }

        boolean noteSeen(int p, int g, boolean in) {
            if (sights >= MOST_SEEN) {
                return false;
            }
            seenPerson[sights] = p;
            seenGate[sights] = g;
            seenIn[sights] = in;
            sights++;
            return true;
        }

        boolean noteHeard(int place, int sound) {
            if (hearings >= MOST_HEARD) {
                return false;
            }
            heardPlace[hearings] = place;
            heardSound[hearings] = sound;
            hearings++;
            return true;
        }

        /** Whether all seen at the gate would be so, had it this kind and this ear. */
        boolean fits(Town town, int g, int kind, int ear) {
            for (int i = 0; i < sights; i++) {
                int p = seenPerson[i];
                if (seenGate[i] == g && town.isPerson(p)
                        && town.distance(town.personSaying[p], g, kind) <= ear != seenIn[i]) {
                    return false;
                }
            }
            return true;
        }

        /** At how many of what is heard the saying differs. */
        int misses(int saying) {
            int sum = 0;
            for (int i = 0; i < hearings; i++) {
                if (Saying.soundAt(saying, heardPlace[i]) != heardSound[i]) {
                    sum++;
                }
            }
            return sum;
        }
    }

    /** The saying with which most gates would let one in. */
    private static final class BestSearch {
        /** How far the first so many sounds are from each gate. */
        final int[][] spent = new int[PLACES + 1][MOST_GATES];
        int most;
        int saying;

        void run(Town town) {
            most = 0;
            saying = 0;
            descend(this, town, 0, 0);
        }

        /**
         * Tries all sounds from the place on, in order. Sounds only add to how far one is, so where
         * no more gates than found are left in reach, nothing behind can be better.
         */
        private static void descend(BestSearch search, Town town, int place, int begun) {
            if (place < 0 || place > PLACES) {
                return;
            }
            int open = search.inReach(town, place);
            if (open <= search.most) {
                return;
            }
            if (place == PLACES) {
                search.most = open;
                search.saying = begun;
                return;
            }
            for (int sound = 0; sound < SOUNDS; sound++) {
                search.spend(town, place, sound);
                descend(search, town, place + 1, Saying.withSound(begun, place, sound));
            }
        }

        private void spend(Town town, int place, int sound) {
            for (int g = 0; g < town.gates; g++) {
                spent[place + 1][g] = spent[place][g] + town.distanceAt(place, sound, g, town.kind[g]);
            }
        }

        private int inReach(Town town, int place) {
            int open = 0;
            for (int g = 0; g < town.gates; g++) {
                if (spent[place][g] <= town.ear[g]) {
                    open++;
                }
            }
            return open;
        }
    }

    /** The fewest talks until a person would be let in at a gate. */
    private static final class LessonSearch {
        /** There are so many sayings: 6 to the fifth. */
        static final int SAYINGS = 7776;
        /** Sayings in the order in which they are reached, eightfold, with the first partner. */
        final int[] queue = new int[SAYINGS];
        final long[] reached = new long[Saying.CODES / 64];
        int queued;
        int fewest;
        int firstPartner;

        /**
         * All sayings after one talk, after two, and so on. Among those after as many talks, the ones
         * begun with a lower partner stand first, so what is found first has the lowest.
         */
        void run(Town town, int p, int g) {
            fewest = NONE;
            firstPartner = NONE;
            forgetAll();
            reach(town.personSaying[p], 0);
            int begin = 0;
            for (int talks = 0; talks <= MOST_LESSONS; talks++) {
                int end = queued;
                for (int i = begin; i < end; i++) {
                    if (town.admits(queue[i] >> 3, g)) {
                        fewest = talks;
                        firstPartner = talks == 0 ? NONE : queue[i] & 7;
                        return;
                    }
                }
                for (int i = begin; i < end; i++) {
                    goOn(town, p, queue[i], talks == 0);
                }
                begin = end;
            }
        }

        private void goOn(Town town, int p, int entry, boolean first) {
            int saying = entry >> 3;
            for (int q = 0; q < town.persons; q++) {
                if (q != p) {
                    int goal = town.personSaying[q];
                    int next = Saying.nearer(saying, goal, Saying.firstDifference(saying, goal));
                    reach(next, first ? q : entry & 7);
                }
            }
        }

        private void reach(int saying, int partner) {
            int word = saying >> 6;
            if (word < 0 || word >= reached.length || queued >= SAYINGS) {
                return;
            }
            long bit = 1L << (saying & 63);
            if ((reached[word] & bit) == 0L) {
                reached[word] |= bit;
                queue[queued] = saying << 3 | partner;
                queued++;
            }
        }

        private void forgetAll() {
            queued = 0;
            for (int word = 0; word < reached.length; word++) {
                reached[word] = 0L;
            }
        }
    }
}
