import java.util.ArrayDeque;
import java.util.ArrayList;
import java.util.Arrays;
import java.util.HashMap;
import java.util.HashSet;
import java.util.List;
import java.util.Map;
import java.util.Set;
import java.util.regex.Matcher;
import java.util.regex.Pattern;

/**
 * The document once more, as plainly and slowly as it reads, with the Java library: what RandomRunsTest
 * holds the class against. It takes its calls by name.
 */
final class PlainTown {
    private static final int BAD = -1, NO = -2, FULL = -3, NONE = -4;
    private static final Pattern GATE = Pattern.compile("g(\\d\\d?),(\\d\\d?),([0-5]{5});");
    private static final Pattern PERSON = Pattern.compile("p([0-5]{5});");
    private static final List<int[]> ALL_SAYINGS = allSayings();

    /** All that is kept and undone. */
    private static final class State {
        List<int[]> gates = new ArrayList<>();
        List<int[]> persons = new ArrayList<>();
        List<Integer> kinds = new ArrayList<>();
        List<Integer> ears = new ArrayList<>();
        List<Integer> homes = new ArrayList<>();
        int in;
        int out;

        State copy() {
            State other = new State();
            for (int[] gate : gates) {
                other.gates.add(gate.clone());
            }
            for (int[] person : persons) {
                other.persons.add(person.clone());
            }
            other.kinds.addAll(kinds);
            other.ears.addAll(ears);
            other.homes.addAll(homes);
            other.in = in;
            other.out = out;
            return other;
        }
    }

    private State now = read("g0,4,01234;g1,3,31230;g2,5,00555;g3,8,12321;p01333;p55000;p02244;p31212;");
    private String text = "";
    private final ArrayDeque<State> past = new ArrayDeque<>();
    private final ArrayDeque<State> kept = new ArrayDeque<>();
    private final List<int[]> seen = new ArrayList<>();
    private final List<int[]> heard = new ArrayList<>();
    private int faultAt;

    private static List<int[]> allSayings() {
        List<int[]> all = new ArrayList<>();
        for (int i = 0; i < 7776; i++) {
            all.add(new int[] {i / 1296, i / 216 % 6, i / 36 % 6, i / 6 % 6, i % 6});
        }
        return all;
    }

    private static int[] row(String figures) {
        return figures.chars().map(letter -> letter - '0').toArray();
    }

    /** Null if there is a fault, which is then at faultAt. */
    private State read(String from) {
        State told = new State();
        int at = 0;
        while (at < from.length()) {
            Matcher gate = GATE.matcher(from).region(at, from.length());
            Matcher person = PERSON.matcher(from).region(at, from.length());
            if (gate.lookingAt() && told.gates.size() < 5 && Integer.parseInt(gate.group(1)) < 4
                    && Integer.parseInt(gate.group(2)) <= 40) {
                told.kinds.add(Integer.parseInt(gate.group(1)));
                told.ears.add(Integer.parseInt(gate.group(2)));
                told.gates.add(row(gate.group(3)));
                at = gate.end();
            } else if (person.lookingAt() && told.persons.size() < 6) {
                told.persons.add(row(person.group(1)));
                told.homes.add(NONE);
                at = person.end();
            } else {
                faultAt = at;
                return null;
            }
        }
        return told;
    }

    /** What the call answers; its numbers beyond those it takes are not looked at. */
    int call(String name, int a, int b, int c, int d) {
        switch (name) {
            case "write": return write(a);
            case "wipe": return wipe();
            case "fault": return read(text) == null ? faultAt : NONE;
            case "lay": return lay();
            case "gate": return !isGate(a) || b < 0 || b > 6 ? BAD
                : b == 5 ? now.kinds.get(a) : b == 6 ? now.ears.get(a) : now.gates.get(a)[b];
            case "person": return !isPerson(a) || b < 0 || b > 5 ? BAD
                : b == 5 ? now.homes.get(a) : now.persons.get(a)[b];
            case "far": return !isPerson(a) || !isGate(b) ? BAD
                : far(now.persons.get(a), now.gates.get(b), now.kinds.get(b));
            case "ask": return !isPerson(a) || !isGate(b) ? BAD : act(() -> asks(now, a, b) ? 1 : 0);
            case "talk": return !isPerson(a) || !isPerson(b) || a == b ? BAD : follows(now.persons, a, b);
            case "listen": return !isGate(a) || !isGate(b) || a == b ? BAD : follows(now.gates, a, b);
            case "undo": return undo();
            case "opens": return !isPerson(a) ? BAD : opens(now.persons.get(a));
            case "best": return a < -1 || a > 4 ? BAD : best(a);
            case "middle": return a < -1 || a > 4 ? BAD : middle(a);
            case "lessons": return !isPerson(a) || !isGate(b) || c < 0 || c > 1 ? BAD : lessons(a, b, c);
            case "apart": return a < 0 || a > 1 ? BAD : apart(a);
            case "crosses": return !isPerson(a) || !isGate(b) || !isGate(c) || b == c ? BAD : crosses(a, b, c);
            case "seen": return !isPerson(a) || !isGate(b) || c < 0 || c > 1 ? BAD : add(seen, 6, a, b, c);
            case "kinds": return !isGate(a) ? BAD : kinds(a);
            case "ears": return !isGate(a) || b < 0 || b > 1 ? BAD : ears(a, b);
            case "heard": return a < 0 || a > 4 || b < 0 || b > 5 ? BAD : add(heard, 8, a, b);
            case "from": return from();
            case "nearest": return a < 0 || a > 1 ? BAD : nearest(a);
            case "forget": return forget();
            case "likely": return !isPerson(a) || !isGate(b) || c < 0 || c > 10 || d < 0 || d > 1 ? BAD
                : likely(a, b, c, d);
            case "year": return a < 0 || a > 9999 || b < 1 || b > 60 || c < 0 || c > 2 ? BAD : year(a, b, c);
            case "keep": return keep();
            case "back": return back();
            case "count": return count(a);
            default: throw new IllegalArgumentException(name);
        }
    }

    int gates() {
        return now.gates.size();
    }

    int persons() {
        return now.persons.size();
    }

    private boolean isGate(int g) {
        return g >= 0 && g < now.gates.size();
    }

    private boolean isPerson(int p) {
        return p >= 0 && p < now.persons.size();
    }

    private int write(int letter) {
        if (letter < 32 || letter > 126) {
            return BAD;
        }
        if (text.length() == 200) {
            return FULL;
        }
        text += (char) letter;
        return text.length();
    }

    private int wipe() {
        int was = text.length();
        text = "";
        return was;
    }

    private int lay() {
        State told = read(text);
        if (told == null || told.gates.isEmpty() || told.persons.isEmpty()) {
            return NO;
        }
        now = told;
        past.clear();
        kept.clear();
        seen.clear();
        heard.clear();
        return now.persons.size();
    }

    private static int far(int[] saying, int[] gate, int kind) {
        int all = 0;
        for (int k = 0; k < 5; k++) {
            all += Math.abs(saying[k] - gate[k]);
        }
        switch (kind) {
            case 1: return all - Math.abs(saying[0] - gate[0]);
            case 2: return all + Math.abs(saying[4] - gate[4]);
            case 3: return 2 * all;
            default: return all;
        }
    }

    private static boolean letsIn(State in, int[] saying, int g) {
        return far(saying, in.gates.get(g), in.kinds.get(g)) <= in.ears.get(g);
    }

    private static boolean asks(State in, int p, int g) {
        int[] person = in.persons.get(p).clone();
        int[] gate = in.gates.get(g).clone();
        if (!letsIn(in, person, g)) {
            in.out++;
            return false;
        }
        in.in++;
        in.homes.set(p, g);
        for (int most = 5; most > 0; most--) {
            int k = 0;
            while (k < 5 && Math.abs(person[k] - gate[k]) != most) {
                k++;
            }
            if (k < 5) {
                in.gates.get(g)[k] += person[k] > gate[k] ? 1 : -1;
                break;
            }
        }
        int first = Arrays.mismatch(person, gate);
        if (first >= 0) {
            in.persons.get(p)[first] += gate[first] > person[first] ? 1 : -1;
        }
        return true;
    }

    private interface Act {
        int done();
    }

    private int act(Act act) {
        State ahead = now.copy();
        int answer = act.done();
        if (answer != NO) {
            past.addLast(ahead);
            if (past.size() > 8) {
                past.removeFirst();
            }
        }
        return answer;
    }

    private static int step(int[] saying, int[] goal) {
        int k = Arrays.mismatch(saying, goal);
        if (k < 0) {
            return NO;
        }
        saying[k] += goal[k] > saying[k] ? 1 : -1;
        return k;
    }

    private int follows(List<int[]> all, int one, int other) {
        return act(() -> step(all.get(one), all.get(other)));
    }

    private int undo() {
        if (past.isEmpty()) {
            return NO;
        }
        now = past.removeLast();
        return past.size();
    }

    private int opens(int[] saying) {
        int bits = 0;
        for (int g = 0; g < gates(); g++) {
            bits += letsIn(now, saying, g) ? 1 << g : 0;
        }
        return bits;
    }

    private int best(int k) {
        int most = -1;
        int[] found = null;
        for (int[] saying : ALL_SAYINGS) {
            int open = Integer.bitCount(opens(saying));
            if (open > most) {
                most = open;
                found = saying;
            }
        }
        return k == -1 ? most : found[k];
    }

    private int middle(int k) {
        int least = Integer.MAX_VALUE;
        int[] found = null;
        for (int[] saying : ALL_SAYINGS) {
            int together = 0;
            for (int g = 0; g < gates(); g++) {
                together += far(saying, now.gates.get(g), now.kinds.get(g));
            }
            if (together < least) {
                least = together;
                found = saying;
            }
        }
        return k == -1 ? least : found[k];
    }

    /** The fewest talks from this saying on, by widening sets of sayings; 31 if there are none so few. */
    private int talksFrom(int[] start, int p, int g) {
        Map<String, int[]> reached = new HashMap<>();
        reached.put(Arrays.toString(start), start);
        Set<String> known = new HashSet<>(reached.keySet());
        for (int talks = 0; talks <= 30; talks++) {
            Map<String, int[]> next = new HashMap<>();
            for (int[] saying : reached.values()) {
                if (letsIn(now, saying, g)) {
                    return talks;
                }
                for (int q = 0; q < persons(); q++) {
                    int[] then = saying.clone();
                    if (q != p && step(then, now.persons.get(q)) != NO && known.add(Arrays.toString(then))) {
                        next.put(Arrays.toString(then), then);
                    }
                }
            }
            reached = next;
        }
        return 31;
    }

    private int lessons(int p, int g, int what) {
        int fewest = talksFrom(now.persons.get(p), p, g);
        if (fewest > 30) {
            return NONE;
        }
        if (what == 0) {
            return fewest;
        }
        for (int q = 0; q < persons() && fewest > 0; q++) {
            int[] then = now.persons.get(p).clone();
            if (q != p && step(then, now.persons.get(q)) != NO && talksFrom(then, p, g) == fewest - 1) {
                return q;
            }
        }
        return NONE;
    }

    private int apart(int what) {
        for (int size = 0; size <= 5; size++) {
            for (int bits = 0; bits < 32; bits++) {
                Set<String> told = new HashSet<>();
                for (int[] gate : now.gates) {
                    StringBuilder sounds = new StringBuilder();
                    for (int k = 0; k < 5; k++) {
                        sounds.append((bits & 1 << k) != 0 ? gate[k] : 9);
                    }
                    told.add(sounds.toString());
                }
                if (Integer.bitCount(bits) == size && told.size() == gates()) {
                    return what == 0 ? size : bits;
                }
            }
        }
        return NONE;
    }

    private int crosses(int p, int g, int h) {
        State tried = now.copy();
        int at = g;
        for (int asked = 0; ; asked++) {
            if (Arrays.equals(tried.gates.get(g), tried.gates.get(h))) {
                return asked;
            }
            if (asked == 60 || !asks(tried, p, at)) {
                return NONE;
            }
            at = at == g ? h : g;
        }
    }

    private static int add(List<int[]> to, int most, int... told) {
        if (to.size() == most) {
            return FULL;
        }
        to.add(told);
        return to.size();
    }

    private boolean fits(int g, int kind, int ear) {
        return seen.stream().filter(sight -> sight[1] == g).allMatch(sight ->
            (far(now.persons.get(sight[0]), now.gates.get(g), kind) <= ear) == (sight[2] == 1));
    }

    private int kinds(int g) {
        int bits = 0;
        for (int kind = 0; kind < 4; kind++) {
            bits += fits(g, kind, now.ears.get(g)) ? 1 << kind : 0;
        }
        return bits;
    }

    private int ears(int g, int what) {
        List<Integer> fitting = new ArrayList<>();
        for (int ear = 0; ear <= 40; ear++) {
            if (fits(g, now.kinds.get(g), ear)) {
                fitting.add(ear);
            }
        }
        return what == 0 ? fitting.size() : fitting.isEmpty() ? NONE : fitting.get(0);
    }

    private int misses(int g) {
        return (int) heard.stream().filter(sound -> now.gates.get(g)[sound[0]] != sound[1]).count();
    }

    private int from() {
        int bits = 0;
        for (int g = 0; g < gates(); g++) {
            bits += misses(g) == 0 ? 1 << g : 0;
        }
        return bits;
    }

    private int nearest(int what) {
        for (int misses = 0; misses <= 8; misses++) {
            for (int g = 0; g < gates(); g++) {
                if (misses(g) == misses) {
                    return what == 0 ? g : misses;
                }
            }
        }
        throw new IllegalStateException("a gate misses one of 0 to 8");
    }

    private int forget() {
        int were = seen.size() + heard.size();
        seen.clear();
        heard.clear();
        return were;
    }

    /** Sums over what is heard, place by place, in tenths to the fifth. */
    private int above(int[] heardSo, int place, int g, int x) {
        if (place == 5) {
            return letsIn(now, heardSo, g) ? 1 : 0;
        }
        int[] wrong = heardSo.clone();
        wrong[place] = wrong[place] == 5 ? 0 : wrong[place] + 1;
        return x * above(wrong, place + 1, g, x) + (10 - x) * above(heardSo, place + 1, g, x);
    }

    private int likely(int p, int g, int x, int part) {
        int above = above(now.persons.get(p), 0, g, x);
        int below = 100000;
        for (int by : new int[] {2, 5}) {
            while (above % by == 0 && below % by == 0) {
                above /= by;
                below /= by;
            }
        }
        return part == 0 ? above : below;
    }

    private int year(int z, int n, int what) {
        State then = now.copy();
        int in = 0;
        int out = 0;
        for (long time = 0; time < n; time++) {
            long x = 7919L * z + 6151L * time + 1;
            long draw = x * x % 65521 / 2;
            int p = (int) (draw % persons());
            if (draw / 64 % 4 != 0) {
                boolean letIn = asks(then, p, (int) (draw / 8 % gates()));
                in += letIn ? 1 : 0;
                out += letIn ? 0 : 1;
            } else if (persons() > 1) {
                step(then.persons.get(p), then.persons.get(p + 1 < persons() ? p + 1 : 0));
            }
        }
        return what == 0 ? in : what == 1 ? out : (int) then.homes.stream().filter(home -> home != NONE).count();
    }

    private int keep() {
        if (kept.size() == 2) {
            return FULL;
        }
        kept.addLast(now.copy());
        return kept.size();
    }

    private int back() {
        if (kept.isEmpty()) {
            return NO;
        }
        now = kept.removeLast();
        past.clear();
        return kept.size();
    }

    private int count(int what) {
        switch (what) {
            case 0: return gates();
            case 1: return persons();
            case 2: return now.in;
            case 3: return now.out;
            case 4: return (int) now.homes.stream().filter(home -> home != NONE).count();
            case 5: return seen.size();
            case 6: return heard.size();
            case 7: return past.size();
            case 8: return kept.size();
            case 9: return text.length();
            default: return BAD;
        }
    }
}
