/** The calls of the face by their names; numbers beyond those that a call takes are not looked at. */
final class Calls {
    private Calls() {
    }

    static int answer(GateSayings x, String name, int a, int b, int c, int d) {
        switch (name) {
            case "write": return x.write(a);
            case "wipe": return x.wipe();
            case "fault": return x.fault();
            case "lay": return x.lay();
            case "gate": return x.gate(a, b);
            case "person": return x.person(a, b);
            case "far": return x.far(a, b);
            case "ask": return x.ask(a, b);
            case "talk": return x.talk(a, b);
            case "listen": return x.listen(a, b);
            case "undo": return x.undo();
            case "opens": return x.opens(a);
            case "best": return x.best(a);
            case "middle": return x.middle(a);
            case "lessons": return x.lessons(a, b, c);
            case "apart": return x.apart(a);
            case "crosses": return x.crosses(a, b, c);
            case "seen": return x.seen(a, b, c);
            case "kinds": return x.kinds(a);
            case "ears": return x.ears(a, b);
            case "heard": return x.heard(a, b);
            case "from": return x.from();
            case "nearest": return x.nearest(a);
            case "forget": return x.forget();
            case "likely": return x.likely(a, b, c, d);
            case "year": return x.year(a, b, c);
            case "keep": return x.keep();
            case "back": return x.back();
            case "count": return x.count(a);
            default: throw new IllegalArgumentException(name);
        }
    }
}
