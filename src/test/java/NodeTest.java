/** Promise 2: node. */
public final class NodeTest {
    private static final Class<IllegalArgumentException> ARGUMENT = IllegalArgumentException.class;
    private static final Class<IllegalStateException> STATE = IllegalStateException.class;
    private static final int LEAST = Integer.MIN_VALUE;
    private static final int MOST = Integer.MAX_VALUE;

    public static void main(String[] args) {
        numbersInOrder();
        kindsThatThereAreNot();
        parts();
        characters();
        waysRulesRegisters();
        whatIsNotNeeded();
        heights();
        eighty();
        Due.end("NodeTest");
    }

    private static void refused(StagedParsers p, int kind, int a, int b, int c) {
        int before = p.count(0);
        String what = "node(" + kind + ", " + a + ", " + b + ", " + c + ")";
        Due.refuses(what, ARGUMENT, () -> p.node(kind, a, b, c));
        Due.is("nodes after " + what, before, p.count(0));
    }

    private static void numbersInOrder() {
        Kit k = new Kit();
        Due.is("PURE", 0, k.pure(LEAST));
        Due.is("SIGN", 1, k.sign(0));
        Due.is("SIGN 255", 2, k.sign(255));
        Due.is("RANGE", 3, k.range(0, 255));
        Due.is("RANGE of one", 4, k.range(7, 7));
        Due.is("NONE", 5, k.none());
        Due.is("THEN", 6, k.then(0, 1, 7));
        Due.is("OR", 7, k.or(0, 6));
        Due.is("TRY", 8, k.attempt(7));
        Due.is("LOOK", 9, k.look(0));
        Due.is("NOT", 10, k.not(0));
        Due.is("MANY", 11, k.many(0, 7));
        Due.is("CHAIN", 12, k.chain(0, 0));
        Due.is("RULE", 13, k.ruleNode(5));
        Due.is("KEEP", 14, k.keep(13, 3));
        Due.is("KEPT", 15, k.kept(3));
    }

    private static void kindsThatThereAreNot() {
        StagedParsers p = new StagedParsers();
        p.node(0, 0, 0, 0);
        int[] kinds = {-1, 14, 15, 100, LEAST, MOST};
        for (int kind : kinds) {
            refused(p, kind, 0, 0, 0);
        }
    }

    private static void parts() {
        StagedParsers p = new StagedParsers();
        p.node(0, 0, 0, 0);
        p.node(0, 0, 0, 0);
        int[] withOnePart = {6, 7, 8, 9, 12};
        int[] withTwoParts = {4, 5, 10};
        int[] noNodes = {-1, 2, 80, LEAST, MOST};
        for (int bad : noNodes) {
            for (int kind : withOnePart) {
                refused(p, kind, bad, 0, 0);
            }
            for (int kind : withTwoParts) {
                refused(p, kind, bad, 0, 0);
                refused(p, kind, 0, bad, 0);
            }
        }
    }

    private static void characters() {
        StagedParsers p = new StagedParsers();
        int[] noCharacters = {-1, 256, LEAST, MOST};
        for (int bad : noCharacters) {
            refused(p, 1, bad, 0, 0);
        }
        refused(p, 2, -1, 5, 0);
        refused(p, 2, 5, 256, 0);
        refused(p, 2, 256, 257, 0);
        refused(p, 2, 6, 5, 0);
        refused(p, 2, 255, 0, 0);
        refused(p, 2, LEAST, MOST, 0);
    }

    private static void waysRulesRegisters() {
        StagedParsers p = new StagedParsers();
        p.node(0, 0, 0, 0);
        int[] noWays = {-1, 8, LEAST, MOST};
        for (int bad : noWays) {
            refused(p, 4, 0, 0, bad);
            refused(p, 9, 0, bad, 0);
        }
        int[] noRules = {-1, 6, LEAST, MOST};
        for (int bad : noRules) {
            refused(p, 11, bad, 0, 0);
        }
        int[] noRegisters = {-1, 4, LEAST, MOST};
        for (int bad : noRegisters) {
            refused(p, 12, 0, bad, 0);
            refused(p, 13, bad, 0, 0);
        }
    }

    private static void whatIsNotNeeded() {
        StagedParsers p = new StagedParsers();
        int number = 0;
        Due.is("PURE looks at a alone", number++, p.node(0, MOST, LEAST, MOST));
        Due.is("SIGN looks at a alone", number++, p.node(1, 1, LEAST, MOST));
        Due.is("RANGE looks at a and b", number++, p.node(2, 1, 2, MOST));
        Due.is("NONE looks at none", number++, p.node(3, LEAST, MOST, -1));
        Due.is("OR looks at a and b", number++, p.node(5, 0, 0, -1));
        Due.is("TRY looks at a alone", number++, p.node(6, 0, -1, -1));
        Due.is("LOOK looks at a alone", number++, p.node(7, 0, -1, -1));
        Due.is("NOT looks at a alone", number++, p.node(8, 0, -1, -1));
        Due.is("MANY looks at a and b", number++, p.node(9, 0, 0, -1));
        Due.is("CHAIN looks at a and b", number++, p.node(10, 0, 0, -1));
        Due.is("RULE looks at a alone", number++, p.node(11, 0, -1, -1));
        Due.is("KEEP looks at a and b", number++, p.node(12, 0, 0, -1));
        Due.is("KEPT looks at a alone", number++, p.node(13, 0, -1, -1));
    }

    private static void heights() {
        Kit k = new Kit();
        int low = k.pure(0);
        int top = low;
        for (int height = 2; height <= 8; height++) {
            int before = top;
            int h = height;
            String made = Due.told(() -> h % 2 == 0 ? k.attempt(before) : k.then(low, before, 0));
            Due.same("a node of height " + height, Integer.toString(before + 1), made);
            top = before + 1;
        }
        int[] kinds = {4, 5, 6, 7, 8, 9, 10, 12};
        for (int kind : kinds) {
            refused(k.p, kind, top, low, 0);
        }
        refused(k.p, 4, low, top, 0);
        refused(k.p, 5, low, top, 0);
        refused(k.p, 10, low, top, 0);
        k.p.rule(0, top);
        int call = k.ruleNode(0);
        Due.is("a RULE is 1 high, whatever its body", call + 1, k.attempt(call));
    }

    private static void eighty() {
        StagedParsers p = new StagedParsers();
        for (int i = 0; i < 80; i++) {
            Due.is("node " + i, i, p.node(0, i, 0, 0));
        }
        Due.refuses("node 80", STATE, () -> p.node(0, 0, 0, 0));
        Due.refuses("another node 80", STATE, () -> p.node(4, 0, 79, 0));
        refused(p, 14, 0, 0, 0);
        refused(p, 6, 80, 0, 0);
        Due.is("count(0) of 80", 80, p.count(0));
    }
}
