import java.io.IOException;
import java.nio.file.Files;
import java.nio.file.Path;

/** What the tests share: counts the answers that are not as due, and lays towns. */
final class Due {
    private final String name;
    private int calls;
    private int wrong;
    private String document = "";
    private String sentence = "";

    Due(String name) {
        this.name = name;
    }

    /** The sentence of DOC.md, in its own words, that the answers from here on are about. */
    void says(String words) {
        if (document.isEmpty()) {
            document = document();
        }
        sentence = ", for: " + words;
        calls++;
        if (!document.contains(words.replaceAll("\\s+", " "))) {
            wrong++;
            System.out.println(name + ": the document does not say: " + words);
        }
    }

    private static String document() {
        try {
            Path project = Path.of(System.getProperty("project", "."));
            return Files.readString(project.resolve("../shared/DOC.md")).replaceAll("\\s+", " ");
        } catch (IOException missing) {
            throw new IllegalStateException("the tests read ../shared/DOC.md", missing);
        }
    }

    void is(String call, long got, long want) {
        calls++;
        if (got != want) {
            wrong++;
            System.out.println(name + ": " + call + " answered " + got + ", due is " + want + sentence);
        }
    }

    /** A gate as a text tells it, behind the letter g. */
    void gate(GateSayings x, int g, String want) {
        text("gate " + g, gateOf(x, g), want);
    }

    /** A person's saying, and the gate of which it is. */
    void person(GateSayings x, int p, String want, int home) {
        text("person " + p, sayingOf(x, p), want);
        is("person(" + p + ", 5)", x.person(p, 5), home);
    }

    void text(String what, String got, String want) {
        calls++;
        if (!got.equals(want)) {
            wrong++;
            System.out.println(name + ": " + what + " is " + got + ", due is " + want + sentence);
        }
    }

    void end() {
        System.out.println(name + ": " + (calls - wrong) + " of " + calls + " answers are as due");
        if (wrong != 0 || calls == 0) {
            System.exit(1);
        }
    }

    static String gateOf(GateSayings x, int g) {
        StringBuilder told = new StringBuilder();
        told.append(x.gate(g, 5)).append(',').append(x.gate(g, 6)).append(',');
        for (int k = 0; k < 5; k++) {
            told.append(x.gate(g, k));
        }
        return told.toString();
    }

    static String sayingOf(GateSayings x, int p) {
        StringBuilder told = new StringBuilder();
        for (int k = 0; k < 5; k++) {
            told.append(x.person(p, k));
        }
        return told.toString();
    }

    static void write(GateSayings x, String text) {
        for (char letter : text.toCharArray()) {
            x.write(letter);
        }
    }

    /** THE TEXT is 200 letters long then; a loop that ends even if that is never told. */
    static void fill(GateSayings x, char letter) {
        for (int length = x.count(9); length < 200; length++) {
            x.write(letter);
        }
    }

    static GateSayings laid(String text) {
        GateSayings x = new GateSayings();
        write(x, text);
        if (x.lay() < 1) {
            throw new IllegalStateException("a test lays " + text);
        }
        return x;
    }

    /** All by which one saying may be told from another: used where a call must leave all as it is. */
    static String stand(GateSayings x) {
        StringBuilder told = new StringBuilder();
        for (int what = 0; what < 10; what++) {
            told.append(x.count(what)).append(' ');
        }
        for (int g = 0; g < x.count(0); g++) {
            told.append(gateOf(x, g)).append(' ').append(x.kinds(g)).append(' ').append(x.ears(g, 0)).append(' ');
        }
        for (int p = 0; p < x.count(1); p++) {
            told.append(sayingOf(x, p)).append(' ').append(x.person(p, 5)).append(' ');
        }
        return told.append(x.from()).append(' ').append(x.nearest(1)).append(' ').append(x.fault()).toString();
    }

    /** Numbers that are of nothing in any town. */
    static final int[] NEVER = {-1, -2, -4, 7, 64, 1 << 20, Integer.MIN_VALUE, Integer.MAX_VALUE};
}
