/** Two objects made alike, one of which gets a call that throws: what the call may not change answers alike then. */
final class Twins {
    /** Makes an object's state. */
    interface Maker {
        void make(Kit k);
    }

    /** A call of the face. */
    interface On {
        long answer(StagedParsers p);
    }

    private Twins() {
    }

    /** The call throws what is due and changes nothing at all. */
    static void refused(String what, Class<? extends RuntimeException> due, Maker maker, On call) {
        Kit one = made(maker);
        Kit other = made(maker);
        Due.refuses(what, due, () -> call.answer(one.p));
        Due.same(what + ", the latest parse then", latest(other.p), latest(one.p));
        Due.same(what + ", everything else then", lasting(other.p), lasting(one.p));
    }

    /** The call is a parse that was run and throws what is due: it changes what is told of the latest parse alone. */
    static void run(String what, Class<? extends RuntimeException> due, Maker maker, On call) {
        Kit one = made(maker);
        Kit other = made(maker);
        Due.refuses(what, due, () -> call.answer(one.p));
        Due.same(what + ", everything but the latest parse then", lasting(other.p), lasting(one.p));
    }

    private static Kit made(Maker maker) {
        Kit k = new Kit();
        maker.make(k);
        return k;
    }

    /** What latest and register answer. */
    static String latest(StagedParsers p) {
        StringBuilder told = new StringBuilder("latest");
        for (int what = -1; what <= 4; what++) {
            told.append(' ').append(p.latest(what));
        }
        told.append(" register");
        for (int i = -1; i <= 4; i++) {
            told.append(' ').append(p.register(i));
        }
        return told.toString();
    }

    /** What everything else answers: first what is only asked, then calls that change something. */
    static String lasting(StagedParsers p) {
        StringBuilder told = new StringBuilder();
        counts(p, told);
        study(p, told);
        parses(p, told);
        tell(told, "type", () -> p.type('a'));
        parses(p, told);
        tell(told, "node", () -> p.node(3, 0, 0, 0));
        tell(told, "stage", () -> p.stage());
        tell(told, "rule", () -> p.rule(5, p.count(0) - 1));
        tell(told, "stage", () -> p.stage());
        tell(told, "parse", () -> p.parse(5));
        tell(told, "clear", () -> p.clear());
        counts(p, told);
        return told.toString();
    }

    private static void counts(StagedParsers p, StringBuilder told) {
        told.append(" count");
        for (int what = -1; what <= 4; what++) {
            told.append(' ').append(p.count(what));
        }
    }

    private static void study(StagedParsers p, StringBuilder told) {
        told.append(" leads");
        for (int r = 0; r < 6; r++) {
            told.append(' ').append(p.leads(r));
        }
        told.append(" empty, begins ");
        int nodes = p.count(0);
        for (int n = 0; n < nodes; n++) {
            told.append(p.empty(n) ? 'e' : '-').append(p.begins(n, 'a') ? 'b' : '-');
        }
    }

    private static void parses(StagedParsers p, StringBuilder told) {
        for (int r = 0; r < 6; r++) {
            int rule = r;
            tell(told, "parse " + r, () -> p.parse(rule));
        }
    }

    private static void tell(StringBuilder told, String what, Due.Call call) {
        told.append(' ').append(what).append(": ").append(Due.told(call));
    }
}
