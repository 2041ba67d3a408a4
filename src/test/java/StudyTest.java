/** Promise 5, empty, promise 6, begins, and promise 7, leads. */
public final class StudyTest {
    private static final Class<IllegalArgumentException> ARGUMENT = IllegalArgumentException.class;
    private static final int LEAST = Integer.MIN_VALUE;
    private static final int MOST = Integer.MAX_VALUE;

    public static void main(String[] args) {
        emptyOfEachKind();
        emptyByRules();
        emptyRefused();
        beginsOfEachKind();
        beginsByRules();
        beginsRefused();
        leadsOfEachKind();
        leadsOverRules();
        leadsRefused();
        Due.end("StudyTest");
    }

    private static void emptyOfEachKind() {
        Kit k = new Kit();
        StagedParsers p = k.p;
        int e = k.pure(5);
        int f = k.sign('a');
        Due.is("PURE is empty", true, p.empty(e));
        Due.is("SIGN is empty", false, p.empty(f));
        Due.is("RANGE is empty", false, p.empty(k.range(0, 255)));
        Due.is("NONE is empty", false, p.empty(k.none()));
        Due.is("THEN e e", true, p.empty(k.then(e, e, 0)));
        Due.is("THEN e f", false, p.empty(k.then(e, f, 0)));
        Due.is("THEN f e", false, p.empty(k.then(f, e, 0)));
        Due.is("OR e f", true, p.empty(k.or(e, f)));
        Due.is("OR f e", true, p.empty(k.or(f, e)));
        Due.is("OR f f", false, p.empty(k.or(f, f)));
        Due.is("TRY e", true, p.empty(k.attempt(e)));
        Due.is("TRY f", false, p.empty(k.attempt(f)));
        Due.is("LOOK f", true, p.empty(k.look(f)));
        Due.is("NOT f", true, p.empty(k.not(f)));
        Due.is("NOT e", true, p.empty(k.not(e)));
        Due.is("MANY f", true, p.empty(k.many(f, 0)));
        Due.is("CHAIN e f", true, p.empty(k.chain(e, f)));
        Due.is("CHAIN f e", false, p.empty(k.chain(f, e)));
        Due.is("KEEP e", true, p.empty(k.keep(e, 0)));
        Due.is("KEEP f", false, p.empty(k.keep(f, 0)));
        Due.is("KEPT", true, p.empty(k.kept(0)));
        Due.is("RULE without body", false, p.empty(k.ruleNode(0)));
    }

    private static void emptyByRules() {
        Kit k = new Kit();
        int call = k.ruleNode(0);
        k.p.rule(0, call);
        Due.is("a rule that is itself, the least", false, k.p.empty(call));
        int e = k.pure(1);
        k.p.rule(0, e);
        Due.is("RULE with an empty body, without code", true, k.p.empty(call));
        k.p.rule(0, k.sign('a'));
        Due.is("the body as it is now", false, k.p.empty(call));
        k.p.rule(0, k.or(call, e));
        Due.is("itself or an empty one", true, k.p.empty(call));
        int[] calls = new int[6];
        for (int r = 0; r < 6; r++) {
            calls[r] = k.ruleNode(r);
        }
        // Each rule's answer comes from the next one's, and the last has its only now.
        for (int r = 0; r < 5; r++) {
            k.p.rule(r, k.attempt(calls[r + 1]));
        }
        Due.is("a row of rules without end", false, k.p.empty(calls[0]));
        k.p.rule(5, k.kept(2));
        Due.is("a row of six rules", true, k.p.empty(calls[0]));
        Due.is("what is made of it", true, k.p.empty(k.keep(calls[0], 1)));
    }

    private static void emptyRefused() {
        Kit k = new Kit();
        k.pure(1);
        int[] bad = {-1, 1, 79, 80, LEAST, MOST};
        for (int n : bad) {
            Due.refuses("empty(" + n + ")", ARGUMENT, () -> k.p.empty(n) ? 1 : 0);
        }
    }

    private static void beginsOfEachKind() {
        Kit k = new Kit();
        StagedParsers p = k.p;
        int e = k.pure('b');
        int a = k.sign('a');
        int b = k.sign('b');
        Due.is("PURE", false, p.begins(e, 'b'));
        Due.is("SIGN its own", true, p.begins(a, 'a'));
        Due.is("SIGN another", false, p.begins(a, 'b'));
        int range = k.range(10, 200);
        Due.is("RANGE below", false, p.begins(range, 9));
        Due.is("RANGE first", true, p.begins(range, 10));
        Due.is("RANGE last", true, p.begins(range, 200));
        Due.is("RANGE above", false, p.begins(range, 201));
        int all = k.range(0, 255);
        Due.is("RANGE 0", true, p.begins(all, 0));
        Due.is("RANGE 255", true, p.begins(all, 255));
        Due.is("NONE", false, p.begins(k.none(), 0));
        Due.is("THEN x", true, p.begins(k.then(a, b, 0), 'a'));
        Due.is("THEN y behind x that takes", false, p.begins(k.then(a, b, 0), 'b'));
        Due.is("THEN y behind an empty x", true, p.begins(k.then(e, b, 0), 'b'));
        Due.is("THEN y behind LOOK", true, p.begins(k.then(k.look(a), b, 0), 'b'));
        Due.is("THEN x is LOOK", false, p.begins(k.then(k.look(a), b, 0), 'a'));
        Due.is("THEN x is MANY, y", true, p.begins(k.then(k.many(a, 0), b, 0), 'b'));
        Due.is("THEN x is MANY, x", true, p.begins(k.then(k.many(a, 0), b, 0), 'a'));
        Due.is("CHAIN x", true, p.begins(k.chain(a, b), 'a'));
        Due.is("CHAIN y behind x that takes", false, p.begins(k.chain(a, b), 'b'));
        Due.is("CHAIN y behind an empty x", true, p.begins(k.chain(e, b), 'b'));
        Due.is("OR x", true, p.begins(k.or(a, b), 'a'));
        Due.is("OR y", true, p.begins(k.or(a, b), 'b'));
        Due.is("OR none of both", false, p.begins(k.or(a, b), 'c'));
        Due.is("TRY", true, p.begins(k.attempt(a), 'a'));
        Due.is("LOOK", false, p.begins(k.look(a), 'a'));
        Due.is("NOT", false, p.begins(k.not(a), 'a'));
        Due.is("MANY", true, p.begins(k.many(a, 0), 'a'));
        Due.is("KEEP", true, p.begins(k.keep(a, 0), 'a'));
        Due.is("KEPT", false, p.begins(k.kept(0), 0));
        Due.is("RULE without body", false, p.begins(k.ruleNode(0), 'a'));
    }

    private static void beginsByRules() {
        Kit k = new Kit();
        int call = k.ruleNode(0);
        int a = k.sign('a');
        k.p.rule(0, k.or(k.then(call, k.sign('b'), 0), a));
        Due.is("a rule that leads to itself", true, k.p.begins(call, 'a'));
        Due.is("but not with what comes behind", false, k.p.begins(call, 'b'));
        int[] calls = new int[6];
        for (int r = 0; r < 6; r++) {
            calls[r] = k.ruleNode(r);
        }
        for (int r = 0; r < 5; r++) {
            k.p.rule(r, k.then(k.kept(0), calls[r + 1], 0));
        }
        Due.is("a row of rules without end", false, k.p.begins(calls[0], 'a'));
        k.p.rule(5, k.sign('a'));
        Due.is("a row of six rules", true, k.p.begins(calls[0], 'a'));
        k.p.rule(5, k.sign('c'));
        Due.is("the body as it is now", false, k.p.begins(calls[0], 'a'));
    }

    private static void beginsRefused() {
        Kit k = new Kit();
        k.range(0, 255);
        int[][] bad = {{-1, 0}, {1, 0}, {80, 0}, {LEAST, 0}, {MOST, 0}, {0, -1}, {0, 256}, {0, LEAST}, {0, MOST}};
        for (int[] b : bad) {
            String what = "begins(" + b[0] + ", " + b[1] + ")";
            Due.refuses(what, ARGUMENT, () -> k.p.begins(b[0], b[1]) ? 1 : 0);
        }
    }

    private static void leadsTo(Kit k, int body, int due, String what) {
        k.p.rule(0, body);
        Due.is(what, due, k.p.leads(0));
    }

    private static void leadsOfEachKind() {
        Kit k = new Kit();
        int e = k.pure(0);
        int a = k.sign('a');
        int one = k.ruleNode(1);
        int five = k.ruleNode(5);
        leadsTo(k, e, 0, "PURE leads");
        leadsTo(k, a, 0, "SIGN leads");
        leadsTo(k, one, 2, "RULE 1 leads, also without a body");
        leadsTo(k, five, 32, "RULE 5 leads");
        leadsTo(k, k.then(one, five, 0), 2, "THEN with x that isn't empty");
        leadsTo(k, k.then(a, five, 0), 0, "THEN with SIGN");
        leadsTo(k, k.then(e, five, 0), 32, "THEN with an empty x");
        leadsTo(k, k.then(k.not(one), five, 0), 34, "THEN with NOT");
        leadsTo(k, k.then(k.look(one), five, 0), 34, "THEN with LOOK");
        leadsTo(k, k.chain(one, five), 2, "CHAIN with x that isn't empty");
        leadsTo(k, k.chain(e, five), 32, "CHAIN with an empty x");
        leadsTo(k, k.or(one, five), 34, "OR");
        leadsTo(k, k.attempt(one), 2, "TRY");
        leadsTo(k, k.look(one), 2, "LOOK");
        leadsTo(k, k.not(one), 2, "NOT");
        leadsTo(k, k.many(one, 0), 2, "MANY");
        leadsTo(k, k.keep(one, 0), 2, "KEEP");
        leadsTo(k, k.kept(0), 0, "KEPT");
        k.p.rule(1, e);
        leadsTo(k, k.then(one, five, 0), 34, "THEN with a rule that is empty now");
        Due.is("a rule without body", 0, k.p.leads(5));
    }

    private static void leadsOverRules() {
        Kit k = new Kit();
        int[] calls = new int[6];
        for (int r = 0; r < 6; r++) {
            calls[r] = k.ruleNode(r);
        }
        // 4 -> 2 -> 5 -> 0 -> 3 -> 1: up and down, so that no single order of going through them is enough.
        int[] row = {4, 2, 5, 0, 3, 1};
        for (int i = 0; i < 5; i++) {
            k.p.rule(row[i], calls[row[i + 1]]);
        }
        int due = 0;
        for (int i = 5; i >= 0; i--) {
            Due.is("leads(" + row[i] + ")", due, k.p.leads(row[i]));
            due |= 1 << row[i];
        }
        k.p.rule(1, calls[4]);
        for (int r = 0; r < 6; r++) {
            Due.is("in the round, leads(" + r + ")", 63, k.p.leads(r));
        }
        k.p.rule(5, k.sign('a'));
        Due.is("cut, leads(5)", 0, k.p.leads(5));
        Due.is("cut, leads(2)", 32, k.p.leads(2));
        Due.is("cut, leads(0)", 8 + 2 + 16 + 4 + 32, k.p.leads(0));
    }

    private static void leadsRefused() {
        StagedParsers p = new StagedParsers();
        int[] bad = {-1, 6, 31, 32, LEAST, MOST};
        for (int r : bad) {
            Due.refuses("leads(" + r + ")", ARGUMENT, () -> p.leads(r));
        }
    }
}
