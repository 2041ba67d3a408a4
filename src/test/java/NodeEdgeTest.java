/** The edges of 'Terms' and promise 2 for nodes: the last that are still allowed, and that they do what they say. */
public final class NodeEdgeTest {
    private static final Class<IllegalArgumentException> ARGUMENT = IllegalArgumentException.class;
    private static final Class<IllegalStateException> STATE = IllegalStateException.class;
    private static final int LEAST = Integer.MIN_VALUE;
    private static final int MOST = Integer.MAX_VALUE;
    private static final int LEAVES = 6;

    public static void main(String[] args) {
        eightyNodes();
        theEightiethIsLikeTheOthers();
        whatIsMadeOfNoneIsOneHigh();
        eightHighWithEachKind();
        oneMoreThanTheHighestPart();
        waysAndRegistersAreNoParts();
        aRuleIsOneHighWhateverItsBody();
        eightHighIsRun();
        firstAndLastKind();
        firstAndLastPart();
        firstAndLastCharacter();
        firstAndLastWay();
        firstAndLastRule();
        firstAndLastRegister();
        whatIsNotNeededIsNotLookedAt();
        argumentsCountBeforeFullness();
        Due.end("NodeEdgeTest");
    }

    private static String made(Kit k, int kind, int a, int b, int c) {
        return Due.told(() -> k.p.node(kind, a, b, c));
    }

    private static void isMade(String what, Kit k, int kind, int a, int b, int c) {
        Due.same(what, Integer.toString(k.p.count(0)), made(k, kind, a, b, c));
    }

    /** "NODES are numbered 0, 1, .. in the order of making, at most 80", "IllegalStateException when there are 80". */
    private static void eightyNodes() {
        Twins.Maker eighty = k -> {
            for (int i = 0; i < 80; i++) {
                Due.is("the number of node " + i, i, i % 2 == 0 ? k.pure(i) : k.attempt(i - 1));
            }
        };
        Twins.refused("an 81st node", STATE, eighty, p -> p.node(0, 0, 0, 0));
        Twins.refused("an 81st node made of the 80th", STATE, eighty, p -> p.node(6, 79, 0, 0));
    }

    private static void theEightiethIsLikeTheOthers() {
        Kit k = new Kit();
        for (int i = 0; i < 79; i++) {
            k.pure(i);
        }
        Due.is("the 80th node", 79, k.then(78, 77, 2));
        Due.is("the 80th is empty", true, k.p.empty(79));
        Due.is("the 80th can begin with 'a'", false, k.p.begins(79, 'a'));
        Due.is("the 80th as a body", 1, k.p.rule(0, 79));
        Due.is("its code", 0, k.p.stage());
        Due.is("its answer", 78 + 77, k.p.parse(0));
    }

    private static int leaf(Kit k, int which) {
        int[] kinds = {0, 1, 2, 3, 11, 13};
        return k.p.node(kinds[which], 0, 0, 0);
    }

    /** "a node that is made of none is 1 high": seven more fit over it, an eighth doesn't. */
    private static void whatIsMadeOfNoneIsOneHigh() {
        for (int which = 0; which < LEAVES; which++) {
            int leaf = which;
            Kit k = new Kit();
            Due.is("seven over leaf " + leaf, 7, k.raised(leaf(k, leaf), 7));
            Twins.Maker eightHigh = t -> t.raised(leaf(t, leaf), 7);
            Twins.refused("eight over leaf " + leaf, ARGUMENT, eightHigh, p -> p.node(6, 7, 0, 0));
        }
    }

    /** "at most eight high", "or it would be higher than eight": with each kind on top, and each of its parts. */
    private static void eightHighWithEachKind() {
        Twins.Maker sevenHigh = k -> k.raised(k.pure(0), 6);
        Twins.Maker eightHigh = k -> k.raised(k.pure(0), 7);
        for (int kind : new int[] {4, 5, 6, 7, 8, 9, 10, 12}) {
            Kit k = new Kit();
            sevenHigh.make(k);
            isMade("8 high by the first part, kind " + kind, k, kind, 6, 0, 0);
            Twins.refused("9 high by the first part, kind " + kind, ARGUMENT, eightHigh, p -> p.node(kind, 7, 0, 0));
        }
        for (int kind : new int[] {4, 5, 10}) {
            Kit k = new Kit();
            sevenHigh.make(k);
            isMade("8 high by the second part, kind " + kind, k, kind, 0, 6, 0);
            isMade("8 high by both parts, kind " + kind, k, kind, 6, 6, 0);
            Twins.refused("9 high by the second part, kind " + kind, ARGUMENT, eightHigh, p -> p.node(kind, 0, 7, 0));
            Twins.refused("9 high by both parts, kind " + kind, ARGUMENT, eightHigh, p -> p.node(kind, 7, 7, 0));
        }
    }

    /** "another one 1 more than its highest part", neither its last one nor both together. */
    private static void oneMoreThanTheHighestPart() {
        for (int kind : new int[] {4, 5, 10}) {
            for (int turn = 0; turn < 2; turn++) {
                boolean highFirst = turn == 0;
                Twins.Maker made = k -> {
                    int five = k.raised(k.pure(0), 4);
                    int three = k.raised(k.pure(0), 2);
                    int six = k.p.node(kind, highFirst ? five : three, highFirst ? three : five, 0);
                    k.raised(six, 2);
                };
                Kit k = new Kit();
                made.make(k);
                String what = "kind " + kind + " of 5 and 3 high, the higher one first: " + highFirst;
                Due.is(what + ", two more over it", 11, k.p.count(0));
                Twins.refused(what + ", three more over it", ARGUMENT, made, p -> p.node(6, 10, 0, 0));
            }
        }
    }

    /** A MANY's way and a KEEP's register are no parts, even if there are high nodes of these numbers. */
    private static void waysAndRegistersAreNoParts() {
        Kit k = new Kit();
        k.raised(k.pure(0), 7);
        int low = k.sign('a');
        for (int way = 0; way <= 7; way++) {
            int many = k.many(low, way);
            Due.is("six over MANY by " + way, many + 6, k.raised(many, 6));
        }
        Kit keeps = new Kit();
        int top = keeps.raised(keeps.then(keeps.pure(0), keeps.pure(0), 0), 6);
        Due.is("the top", 8, top);
        int sign = keeps.sign('a');
        for (int i = 0; i <= 3; i++) {
            int keep = keeps.keep(sign, i);
            Due.is("six over KEEP in " + i, keep + 6, keeps.raised(keep, 6));
        }
    }

    private static void aRuleIsOneHighWhateverItsBody() {
        Kit k = new Kit();
        int high = k.raised(k.sign('a'), 7);
        k.p.rule(5, high);
        int again = k.raised(k.ruleNode(5), 7);
        k.staged(again);
        k.succeeds("a", 'a', 1, 1, -1);
        k.fails("b", 0, 1, 0);
        Due.refuses("9 high over a RULE", ARGUMENT, () -> k.attempt(again));
    }

    private static void eightHighIsRun() {
        Kit k = new Kit();
        int two = k.then(k.sign('a'), k.sign('b'), 2);
        int three = k.many(k.attempt(two), 2);
        int high = k.keep(k.look(k.or(k.keep(three, 1), k.none())), 2);
        Due.refuses("9 high", ARGUMENT, () -> k.attempt(high));
        k.staged(high);
        k.succeeds("ababa", 2 * ('a' + 'b'), 0, 6, 5);
        Due.is("kept 5 high", 2 * ('a' + 'b'), k.p.register(1));
        Due.is("kept 8 high", 2 * ('a' + 'b'), k.p.register(2));
    }

    /** "of kind 0 .. 13". */
    private static void firstAndLastKind() {
        Kit k = new Kit();
        isMade("kind 0", k, 0, 0, 0, 0);
        isMade("kind 13", k, 13, 0, 0, 0);
        k.staged(0).succeeds("", 0, 0, 0, -1);
        k.staged(1).succeeds("", 0, 0, 0, -1);
    }

    /** "a part is no node": the first node, and the one that was made last, are. */
    private static void firstAndLastPart() {
        for (int kind : new int[] {4, 5, 6, 7, 8, 9, 10, 12}) {
            Kit k = new Kit();
            for (int i = 0; i < 5; i++) {
                k.sign('a');
            }
            isMade("the first node as the first part, kind " + kind, k, kind, 0, 0, 0);
            Kit last = new Kit();
            last.sign('a');
            isMade("the last node as the first part, kind " + kind, last, kind, last.p.count(0) - 1, 0, 0);
        }
        for (int kind : new int[] {4, 5, 10}) {
            Kit k = new Kit();
            k.sign('a');
            k.sign('b');
            isMade("the last node as the second part, kind " + kind, k, kind, 0, 1, 0);
            isMade("one node as both parts, kind " + kind, k, kind, 1, 1, 0);
        }
    }

    /** "a character not 0 .. 255, b below a (RANGE)". */
    private static void firstAndLastCharacter() {
        for (int c : new int[] {0, 255}) {
            String other = Character.toString(255 - c);
            String own = Character.toString(c);
            Kit sign = new Kit();
            sign.staged(sign.sign(c));
            sign.succeeds(own, c, 1, 1, -1);
            sign.fails(other, 0, 1, 0);
            Kit range = new Kit();
            range.staged(range.range(c, c));
            range.succeeds(own, c, 1, 1, -1);
            range.fails(other, 0, 1, 0);
            Kit all = new Kit();
            all.staged(all.range(0, 255)).succeeds(own, c, 1, 1, -1);
        }
        Kit k = new Kit();
        k.staged(k.range(100, 101));
        k.fails(Character.toString(99), 0, 1, 0);
        k.succeeds(Character.toString(100), 100, 1, 1, -1);
        k.succeeds(Character.toString(101), 101, 1, 1, -1);
        k.fails(Character.toString(102), 0, 1, 0);
    }

    /** "a way of joining not 0 .. 7". */
    private static void firstAndLastWay() {
        Kit k = new Kit();
        int a = k.sign('a');
        k.staged(k.then(a, k.pure(5), 0)).succeeds("a", 'a', 1, 1, -1);
        k.staged(k.then(a, k.pure('a'), 7)).succeeds("a", 1, 1, 1, -1);
        k.staged(k.many(a, 0)).succeeds("a", 0, 1, 2, 1);
        k.staged(k.many(k.sign(0), 7)).succeeds("\0", 1, 1, 2, 1);
    }

    /** "a rule not 0 .. 5". */
    private static void firstAndLastRule() {
        Kit k = new Kit();
        k.p.rule(5, k.sign('a'));
        k.staged(k.ruleNode(5)).succeeds("a", 'a', 1, 1, -1);
        k.p.rule(1, k.ruleNode(0));
        Due.is("stage()", 0, k.p.stage());
        Due.is("rule 1, by way of rules 0 and 5", 'a', k.p.parse(1));
    }

    /** "a register not 0 .. 3". */
    private static void firstAndLastRegister() {
        Kit k = new Kit();
        int both = k.then(k.keep(k.sign('a'), 0), k.keep(k.sign('b'), 3), 1);
        k.staged(k.then(both, k.then(k.kept(0), k.kept(3), 3), 1));
        k.succeeds("ab", 'a' - 'b', 2, 2, -1);
        Due.same("registers", "latest -2 2 2 -1 1 -2 register 0 97 0 0 98 0", Twins.latest(k.p));
    }

    /** "(what a kind doesn't need is not looked at)". */
    private static void whatIsNotNeededIsNotLookedAt() {
        Kit k = new Kit();
        k.sign('a');
        for (int no : new int[] {LEAST, -1, 256, MOST}) {
            String what = " with " + no + " where nothing is needed";
            isMade("PURE" + what, k, 0, no, no, no);
            isMade("SIGN" + what, k, 1, 0, no, no);
            isMade("RANGE" + what, k, 2, 0, 0, no);
            isMade("NONE" + what, k, 3, no, no, no);
            isMade("OR" + what, k, 5, 0, 0, no);
            isMade("TRY" + what, k, 6, 0, no, no);
            isMade("LOOK" + what, k, 7, 0, no, no);
            isMade("NOT" + what, k, 8, 0, no, no);
            isMade("MANY" + what, k, 9, 0, 0, no);
            isMade("CHAIN" + what, k, 10, 0, 0, no);
            isMade("RULE" + what, k, 11, 0, no, no);
            isMade("KEEP" + what, k, 12, 0, 0, no);
            isMade("KEPT" + what, k, 13, 0, no, no);
        }
    }

    /** With 80 nodes and arguments that are not allowed: of both exceptions, the one that the promise names first. */
    private static void argumentsCountBeforeFullness() {
        Twins.refused("full: no such kind", ARGUMENT, States::full, p -> p.node(14, 0, 0, 0));
        Twins.refused("full: no such part", ARGUMENT, States::full, p -> p.node(6, 80, 0, 0));
        Twins.refused("full: no such character", ARGUMENT, States::full, p -> p.node(1, 256, 0, 0));
        Twins.Maker highAndFull = k -> {
            k.raised(k.pure(0), 7);
            for (int n = 8; n < 80; n++) {
                k.pure(n);
            }
        };
        Twins.refused("full: 9 high", ARGUMENT, highAndFull, p -> p.node(6, 7, 0, 0));
        Twins.refused("full: 8 high", STATE, highAndFull, p -> p.node(6, 6, 0, 0));
    }
}
