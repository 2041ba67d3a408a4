import java.util.LinkedHashMap;
import java.util.Map;

/** States of an object in which calls are refused. */
final class States {
    static final String FORTY = "a".repeat(40);

    private States() {
    }

    static Map<String, Twins.Maker> all() {
        Map<String, Twins.Maker> all = new LinkedHashMap<>();
        all.put("new", k -> { });
        all.put("nodes alone", States::nodes);
        all.put("staged", States::staged);
        all.put("succeeded", k -> parsed(k, "ab"));
        all.put("failed", k -> parsed(k, "aa"));
        all.put("tired", k -> parsed(k, "c".repeat(40)));
        all.put("without code", States::withoutCode);
        all.put("badly made", States::badlyMade);
        all.put("full", States::full);
        return all;
    }

    static void nodes(Kit k) {
        k.pair('a', 'b');
        k.text("ab");
    }

    /** Rule 0: a pair that is kept, or a row of c that may grow too deep; rule 4 tells the text. */
    static void staged(Kit k) {
        int pair = k.keep(k.then(k.keep(k.sign('a'), 0), k.sign('b'), 2), 3);
        int row = k.then(k.keep(k.sign('c'), 1), k.ruleNode(0), 2);
        k.reader(4);
        k.staged(k.or(pair, k.or(row, k.pure(7))));
    }

    static void parsed(Kit k, String text) {
        staged(k);
        k.text(text);
        Due.told(() -> k.p.parse(0));
    }

    private static void withoutCode(Kit k) {
        parsed(k, "ab");
        k.p.rule(1, 0);
    }

    private static void badlyMade(Kit k) {
        parsed(k, "ab");
        k.p.rule(1, k.ruleNode(1));
        Due.is("stage() of a rule that leads to itself", 3, k.p.stage());
    }

    /** 80 nodes, six rules, 40 characters, with code. */
    static void full(Kit k) {
        staged(k);
        for (int r = 1; r <= 5; r++) {
            if (r != 4) {
                k.p.rule(r, r);
            }
        }
        for (int n = k.p.count(0); n < 80; n++) {
            k.pure(n);
        }
        Due.is("stage() when full", 0, k.p.stage());
        k.text(FORTY);
        Due.told(() -> k.p.parse(0));
    }
}
