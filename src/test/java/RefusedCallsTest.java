import java.util.Map;

/**
 * Each sentence that begins with "Throws", for each call that can be refused: the first arguments that are not allowed
 * any more, what is thrown, and that everything is as it was before; in each state that an object can be in.
 */
public final class RefusedCallsTest {
    private static final Class<IllegalArgumentException> ARGUMENT = IllegalArgumentException.class;
    private static final Class<IllegalStateException> STATE = IllegalStateException.class;
    private static final int LEAST = Integer.MIN_VALUE;
    private static final int MOST = Integer.MAX_VALUE;

    private final String state;
    private final Twins.Maker maker;
    private final int nodes;
    private final boolean code;

    private RefusedCallsTest(String state, Twins.Maker maker) {
        this.state = state;
        this.maker = maker;
        Kit k = new Kit();
        maker.make(k);
        nodes = k.p.count(0);
        code = k.p.count(2) == 1;
    }

    public static void main(String[] args) {
        for (Map.Entry<String, Twins.Maker> e : States.all().entrySet()) {
            RefusedCallsTest test = new RefusedCallsTest(e.getKey(), e.getValue());
            test.nodesOfNoKind();
            test.nodesOfNoPart();
            test.nodesOfNoCharacter();
            test.nodesOfNoWayRuleOrRegister();
            test.rules();
            test.studies();
            test.characters();
            test.parses();
        }
        whenFull();
        parsesWithoutCode();
        parsesThatWereRun();
        Due.end("RefusedCallsTest");
    }

    private void refused(String what, Class<? extends RuntimeException> due, Twins.On call) {
        Twins.refused(state + ": " + what, due, maker, call);
    }

    private void refusedNode(int kind, int a, int b, int c) {
        String what = "node(" + kind + ", " + a + ", " + b + ", " + c + ")";
        refused(what, ARGUMENT, p -> p.node(kind, a, b, c));
    }

    /** Promise 2: "when there is no such kind". */
    private void nodesOfNoKind() {
        for (int kind : new int[] {-1, 14, LEAST, MOST}) {
            refusedNode(kind, 0, 0, 0);
        }
    }

    /** Promise 2: "a part is no node"; the next node's number is no node yet. */
    private void nodesOfNoPart() {
        int[] withOnePart = {6, 7, 8, 9, 12};
        int[] withTwoParts = {4, 5, 10};
        for (int bad : new int[] {-1, nodes, LEAST, MOST}) {
            for (int kind : withOnePart) {
                refusedNode(kind, bad, 0, 0);
            }
            for (int kind : withTwoParts) {
                refusedNode(kind, bad, 0, 0);
                refusedNode(kind, 0, bad, 0);
            }
        }
    }

    /** Promise 2: "a character not 0 .. 255, b below a (RANGE)". */
    private void nodesOfNoCharacter() {
        for (int bad : new int[] {-1, 256, LEAST, MOST}) {
            refusedNode(1, bad, 0, 0);
        }
        refusedNode(2, -1, 0, 0);
        refusedNode(2, -1, -1, 0);
        refusedNode(2, 255, 256, 0);
        refusedNode(2, 256, 256, 0);
        refusedNode(2, 1, 0, 0);
        refusedNode(2, 255, 254, 0);
        refusedNode(2, LEAST, MOST, 0);
    }

    /** Promise 2: "a way of joining not 0 .. 7, a rule not 0 .. 5, a register not 0 .. 3". */
    private void nodesOfNoWayRuleOrRegister() {
        for (int bad : new int[] {-1, 8, LEAST, MOST}) {
            refusedNode(4, 0, 0, bad);
            refusedNode(9, 0, bad, 0);
        }
        for (int bad : new int[] {-1, 6, LEAST, MOST}) {
            refusedNode(11, bad, 0, 0);
        }
        for (int bad : new int[] {-1, 4, LEAST, MOST}) {
            refusedNode(12, 0, bad, 0);
            refusedNode(13, bad, 0, 0);
        }
    }

    /** Promise 3: "when there is no such rule or node". */
    private void rules() {
        for (int bad : new int[] {-1, 6, LEAST, MOST}) {
            refused("rule(" + bad + ", 0)", ARGUMENT, p -> p.rule(bad, 0));
        }
        for (int bad : new int[] {-1, nodes, LEAST, MOST}) {
            refused("rule(0, " + bad + ")", ARGUMENT, p -> p.rule(0, bad));
            refused("rule(6, " + bad + ")", ARGUMENT, p -> p.rule(6, bad));
        }
    }

    /** Promises 5, 6 and 7: "when there is none such", "no such node, or c is not 0 .. 255", "no such rule". */
    private void studies() {
        for (int bad : new int[] {-1, nodes, LEAST, MOST}) {
            refused("empty(" + bad + ")", ARGUMENT, p -> p.empty(bad) ? 1 : 0);
            refused("begins(" + bad + ", 'a')", ARGUMENT, p -> p.begins(bad, 'a') ? 1 : 0);
            refused("begins(" + bad + ", 256)", ARGUMENT, p -> p.begins(bad, 256) ? 1 : 0);
        }
        for (int bad : new int[] {-1, 256, LEAST, MOST}) {
            refused("begins(0, " + bad + ")", ARGUMENT, p -> p.begins(0, bad) ? 1 : 0);
        }
        for (int bad : new int[] {-1, 6, LEAST, MOST}) {
            refused("leads(" + bad + ")", ARGUMENT, p -> p.leads(bad));
        }
    }

    /** Promise 8: "when it is above 255". */
    private void characters() {
        for (int bad : new int[] {256, 256 + 'a', 65535}) {
            refused("type(" + bad + ")", ARGUMENT, p -> p.type((char) bad));
        }
    }

    /** Promise 10: "when there is no code", "when there is no such rule". */
    private void parses() {
        for (int bad : new int[] {-1, 6, LEAST, MOST}) {
            refused("parse(" + bad + ")", code ? ARGUMENT : STATE, p -> p.parse(bad));
        }
    }

    /** Promise 2: "IllegalStateException when there are 80"; promise 8: "when the text has 40". */
    private static void whenFull() {
        for (int kind = 0; kind <= 13; kind++) {
            int k = kind;
            Twins.refused("full: a node of kind " + kind, STATE, States::full, p -> p.node(k, 0, 1, 0));
        }
        for (int c : new int[] {0, 'a', 255}) {
            Twins.refused("full: type(" + c + ")", STATE, States::full, p -> p.type((char) c));
        }
    }

    /** Promise 10: "IllegalStateException when there is no code; IllegalArgumentException when .. it has no body". */
    private static void parsesWithoutCode() {
        Map<String, Twins.Maker> all = States.all();
        for (String state : new String[] {"new", "nodes alone", "without code", "badly made"}) {
            for (int r = 0; r < 6; r++) {
                int rule = r;
                Twins.refused(state + ": parse(" + r + ")", STATE, all.get(state), p -> p.parse(rule));
            }
        }
        for (String state : new String[] {"staged", "succeeded", "failed", "tired"}) {
            for (int r : new int[] {1, 2, 3, 5}) {
                String what = state + ": parse(" + r + ") without body";
                Twins.refused(what, ARGUMENT, all.get(state), p -> p.parse(r));
            }
        }
        Twins.refused("code without bodies: parse(0)", ARGUMENT, k -> k.p.stage(), p -> p.parse(0));
    }

    /** Promise 10: "when it is tired", "when it fails. (The text stays.)" */
    private static void parsesThatWereRun() {
        Twins.Maker failing = k -> {
            States.staged(k);
            k.text("aa");
        };
        Twins.Maker tiring = k -> {
            States.staged(k);
            k.text("c".repeat(40));
        };
        Twins.run("a parse that fails", java.util.NoSuchElementException.class, failing, p -> p.parse(0));
        Twins.run("a parse that is tired", UnsupportedOperationException.class, tiring, p -> p.parse(0));
    }
}
