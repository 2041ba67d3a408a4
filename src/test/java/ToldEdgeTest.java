import java.util.NoSuchElementException;

/** The edges of promise 1, a new object, and of promises 10 to 13, what is told of a parse and of the object. */
public final class ToldEdgeTest {
    private static final Class<IllegalArgumentException> ARGUMENT = IllegalArgumentException.class;
    private static final Class<IllegalStateException> STATE = IllegalStateException.class;
    private static final int LEAST = Integer.MIN_VALUE;
    private static final int MOST = Integer.MAX_VALUE;
    private static final String FORTY = States.FORTY;
    private static final String NOTHING_RUN = "latest -2 0 0 0 0 -2 register 0 0 0 0 0 0";

    public static void main(String[] args) {
        newObject();
        latestWhenNoneWasRun();
        latestOfOtherNumbers();
        placesFromZeroToForty();
        looksFromNoneOn();
        registerOfOtherNumbers();
        registersAreOfTheLatestParse();
        countOfOtherNumbers();
        countFromNoneToFull();
        parseByFirstAndLastRule();
        stateCountsBeforeArgument();
        the512thCall();
        Due.end("ToldEdgeTest");
    }

    /** "No nodes, no bodies, an empty text; registers 0; nothing was parsed; no code." */
    private static void newObject() {
        StagedParsers p = new StagedParsers();
        Due.same("told of a new object", NOTHING_RUN, Twins.latest(p));
        for (int what = 0; what <= 3; what++) {
            Due.is("count(" + what + ")", 0, p.count(what));
        }
        Due.refuses("empty(0)", ARGUMENT, () -> p.empty(0) ? 1 : 0);
        Due.refuses("begins(0, 0)", ARGUMENT, () -> p.begins(0, 0) ? 1 : 0);
        Due.refuses("rule(0, 0)", ARGUMENT, () -> p.rule(0, 0));
        for (int r = 0; r < 6; r++) {
            int rule = r;
            Due.is("leads(" + r + ")", 0, p.leads(r));
            Due.refuses("parse(" + r + ")", STATE, () -> p.parse(rule));
        }
        Due.is("clear()", 0, p.clear());
        Due.is("the first node", 0, p.node(0, 0, 0, 0));
        Due.is("the first character", 1, p.type((char) 0));
        Due.is("the first rule", 1, p.rule(0, 0));
    }

    /** "0 when none was run": a parse that was refused was not run. */
    private static void latestWhenNoneWasRun() {
        Kit k = new Kit();
        Due.refuses("parse(0) without code", STATE, () -> k.p.parse(0));
        Due.same("told then", NOTHING_RUN, Twins.latest(k.p));
        k.p.rule(0, k.keep(k.pure(5), 0));
        Due.refuses("parse(0) without code", STATE, () -> k.p.parse(0));
        Due.is("stage()", 0, k.p.stage());
        for (int r : new int[] {-1, 1, 5, 6, LEAST, MOST}) {
            Due.refuses("parse(" + r + ")", ARGUMENT, () -> k.p.parse(r));
        }
        Due.same("told then", NOTHING_RUN, Twins.latest(k.p));
        Due.is("parse(0)", 5, k.p.parse(0));
        Due.same("told of the first", "latest -2 0 0 -1 1 -2 register 0 5 0 0 0 0", Twins.latest(k.p));
        Due.refuses("parse(1)", ARGUMENT, () -> k.p.parse(1));
        k.p.rule(0, 0);
        Due.refuses("parse(0) without code", STATE, () -> k.p.parse(0));
        Due.same("told of the first still", "latest -2 0 0 -1 1 -2 register 0 5 0 0 0 0", Twins.latest(k.p));
    }

    /** "-2 for any other number". */
    private static void latestOfOtherNumbers() {
        Kit k = new Kit();
        k.staged(k.pure(1));
        for (int turn = 0; turn < 2; turn++) {
            for (int other : new int[] {-1, 4, -2, 5, LEAST, MOST}) {
                Due.is("latest(" + other + ") after " + turn, -2, k.p.latest(other));
            }
            k.p.parse(0);
        }
    }

    /** "0 the place where it succeeded or failed (-1 when it was tired) .. 3 whether it succeeded (1 or 0)". */
    private static void placesFromZeroToForty() {
        Kit k = new Kit();
        int all = k.many(k.sign('a'), 0);
        k.staged(all);
        k.succeeds("", 0, 0, 1, 0);
        k.succeeds(FORTY, 0, 40, 41, 40);
        k.staged(k.then(all, k.none(), 0));
        k.fails("", 0, 1, 0);
        k.fails(FORTY, 40, 41, 40);
        int self = k.ruleNode(0);
        k.staged(k.or(k.then(k.sign('a'), self, 0), k.pure(0)));
        k.tires(FORTY, 40, -1);
    }

    /** "1 the looks": none, one, and as many as can be. */
    private static void looksFromNoneOn() {
        Kit k = new Kit();
        k.staged(k.pure(0)).succeeds("a", 0, 0, 0, -1);
        k.staged(k.sign('a')).succeeds("a", 'a', 1, 1, -1);
        k.p.rule(1, k.look(k.many(k.sign('a'), 0)));
        int forty = k.ruleNode(1);
        k.staged(k.times(forty, 36)).succeeds(FORTY, 0, 0, 36 * 41, 40);
        k.staged(k.then(k.times(forty, 36), k.times(k.look(k.sign('a')), 24), 0));
        k.succeeds(FORTY, 0, 0, 1500, 40);
        k.staged(k.then(k.times(forty, 36), k.times(k.look(k.sign('a')), 25), 0));
        k.tires(FORTY, 1500, 40);
    }

    /** "0 when there is no such register". */
    private static void registerOfOtherNumbers() {
        Kit k = new Kit();
        k.staged(k.keep(k.keep(k.keep(k.keep(k.pure(8), 0), 1), 2), 3));
        Due.is("parse(0)", 8, k.p.parse(0));
        for (int i = 0; i <= 3; i++) {
            Due.is("register(" + i + ")", 8, k.p.register(i));
        }
        for (int other : new int[] {-1, 4, 5, LEAST, MOST}) {
            Due.is("register(" + other + ")", 0, k.p.register(other));
        }
    }

    /** "as the latest parse that was run left it": also one that failed before it kept anything. */
    private static void registersAreOfTheLatestParse() {
        Kit k = new Kit();
        k.staged(k.keep(k.sign('a'), 3));
        k.succeeds("a", 'a', 1, 1, -1);
        Due.is("register(3)", 'a', k.p.register(3));
        k.text("");
        Due.refuses("parse(0) of ''", NoSuchElementException.class, () -> k.p.parse(0));
        Due.is("register(3) then", 0, k.p.register(3));
    }

    /** "-1 for any other number". */
    private static void countOfOtherNumbers() {
        for (Twins.Maker maker : States.all().values()) {
            Kit k = new Kit();
            maker.make(k);
            for (int other : new int[] {-1, 4, -2, 5, LEAST, MOST}) {
                Due.is("count(" + other + ")", -1, k.p.count(other));
            }
        }
    }

    /** "0 the nodes, 1 the rules with bodies, 2 whether there is code (1 or 0), 3 the characters of the text". */
    private static void countFromNoneToFull() {
        Kit k = new Kit();
        for (int n = 1; n <= 80; n++) {
            k.pure(0);
            Due.is("count(0)", n, k.p.count(0));
        }
        for (int r = 0; r < 6; r++) {
            k.p.rule(r, 79);
            Due.is("count(1)", r + 1, k.p.count(1));
        }
        for (int c = 1; c <= 40; c++) {
            k.p.type('a');
            Due.is("count(3)", c, k.p.count(3));
        }
        Due.is("count(2)", 0, k.p.count(2));
        k.p.stage();
        Due.is("count(2) after stage()", 1, k.p.count(2));
        Due.refuses("node", STATE, () -> k.pure(0));
        Due.refuses("type", STATE, () -> k.p.type('a'));
        Due.refuses("rule", ARGUMENT, () -> k.p.rule(6, 79));
        int[] due = {80, 6, 1, 40};
        for (int what = 0; what <= 3; what++) {
            Due.is("when full, count(" + what + ")", due[what], k.p.count(what));
        }
    }

    /** "Runs the body of rule r at place 0 of the text". */
    private static void parseByFirstAndLastRule() {
        Kit k = new Kit();
        k.p.rule(0, k.sign('a'));
        k.p.rule(5, k.then(k.sign('a'), k.sign('b'), 1));
        Due.is("stage()", 0, k.p.stage());
        k.text("ab");
        Due.is("parse(0)", 'a', k.p.parse(0));
        k.latest("parse(0)", 1, 1, -1, 1);
        Due.is("parse(5)", 'b', k.p.parse(5));
        k.latest("parse(5)", 2, 2, -1, 1);
        for (int r : new int[] {-1, 6, 1, 4}) {
            Due.refuses("parse(" + r + ")", ARGUMENT, () -> k.p.parse(r));
        }
        k.latest("parse(5) still", 2, 2, -1, 1);
    }

    /** No code and no such rule: of both exceptions, the one that the promise names first. */
    private static void stateCountsBeforeArgument() {
        Twins.refused("new: parse(-1)", STATE, k -> { }, p -> p.parse(-1));
        Twins.refused("new: parse(6)", STATE, k -> { }, p -> p.parse(6));
        Twins.refused("a body, no code: parse(1)", STATE, k -> k.p.rule(0, k.pure(0)), p -> p.parse(1));
    }

    /** "An object is used for at most 512 calls after it has been made": the last of them answers as the first. */
    private static void the512thCall() {
        StagedParsers p = new StagedParsers();
        p.node(2, '0', '9', 0);
        p.node(9, 0, 5, 0);
        p.rule(0, 1);
        p.stage();
        p.type('4');
        p.type('2');
        for (int call = 7; call <= 512; call++) {
            Due.is("parse, call " + call, 42, p.parse(0));
        }
    }
}
