import java.util.ArrayList;
import java.util.List;
import java.util.function.Consumer;

/**
 * Two objects with the same calls behind them, but that one was asked for more besides, by calls that must
 * leave all as it was. What can be told from an object is told from both and must be the same: how it
 * stands, then undone to the end, gone back to the end, or laid anew.
 */
final class Twins {
    private static final List<Consumer<GateSayings>> NOTHING = List.of(x -> { });

    private Twins() {
    }

    static void same(Due due, String what, Consumer<GateSayings> ahead, Consumer<GateSayings> besides) {
        for (int way = 0; way < 3; way++) {
            due.text("all behind " + what + ", way " + way, told(ahead, List.of(besides), way),
                told(ahead, NOTHING, way));
        }
    }

    private static String told(Consumer<GateSayings> ahead, List<Consumer<GateSayings>> besides, int way) {
        GateSayings x = new GateSayings();
        ahead.accept(x);
        besides.forEach(calls -> calls.accept(x));
        List<String> told = new ArrayList<>();
        told.add(Due.stand(x));
        switch (way) {
            case 0: undoAll(x, told); break;
            case 1: goBackAll(x, told); break;
            default: layAnew(x, told);
        }
        return told.toString();
    }

    private static void undoAll(GateSayings x, List<String> told) {
        int left = x.count(7);
        for (int i = 0; i <= left; i++) {
            told.add(x.undo() + ": " + brief(x));
        }
    }

    private static void goBackAll(GateSayings x, List<String> told) {
        int left = x.count(8);
        for (int i = 0; i <= left; i++) {
            told.add(x.back() + ": " + brief(x));
        }
        told.add("undo: " + x.undo());
    }

    private static void layAnew(GateSayings x, List<String> told) {
        told.add(x.lay() + ": " + brief(x));
        told.add("wipe: " + x.wipe());
    }

    /** Fewer calls than Due.stand takes: an object is promised for 512. */
    private static String brief(GateSayings x) {
        StringBuilder told = new StringBuilder();
        for (int g = 0; g < x.count(0); g++) {
            told.append(Due.gateOf(x, g)).append(' ');
        }
        for (int p = 0; p < x.count(1); p++) {
            told.append(Due.sayingOf(x, p)).append(' ').append(x.person(p, 5)).append(' ');
        }
        return told.append(x.count(2)).append(' ').append(x.count(3)).toString();
    }
}
