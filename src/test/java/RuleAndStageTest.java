/** Promise 3, rule, and promise 4, stage. */
public final class RuleAndStageTest {
    private static final Class<IllegalArgumentException> ARGUMENT = IllegalArgumentException.class;
    private static final Class<IllegalStateException> STATE = IllegalStateException.class;
    private static final int LEAST = Integer.MIN_VALUE;
    private static final int MOST = Integer.MAX_VALUE;

    public static void main(String[] args) {
        howManyRules();
        rulesRefused();
        ruleTakesTheCodeAway();
        noRulesAtAll();
        withoutBody();
        endlessLoops();
        goingRound();
        whichCountsFirst();
        onlyWhatIsInBodies();
        aFaultTakesTheCodeAway();
        Due.end("RuleAndStageTest");
    }

    private static void howManyRules() {
        Kit k = new Kit();
        k.pure(1);
        k.pure(2);
        int[] rules = {5, 0, 5, 3, 0, 1, 2, 4, 4};
        int[] due = {1, 2, 2, 3, 3, 4, 5, 6, 6};
        for (int i = 0; i < rules.length; i++) {
            Due.is("rule " + rules[i], due[i], k.p.rule(rules[i], i % 2));
        }
        k.p.stage();
        Due.is("the body of rule 0 is the later one", 1, k.p.parse(0));
        Due.is("the body of rule 3", 2, k.p.parse(3));
    }

    private static void rulesRefused() {
        Kit k = new Kit();
        k.staged(k.pure(9));
        int[][] bad = {{-1, 0}, {6, 0}, {LEAST, 0}, {MOST, 0}, {0, -1}, {0, 1}, {0, 80}, {0, LEAST}, {0, MOST}};
        for (int[] b : bad) {
            Due.refuses("rule(" + b[0] + ", " + b[1] + ")", ARGUMENT, () -> k.p.rule(b[0], b[1]));
        }
        Due.is("a rule that was refused leaves the code", 9, k.p.parse(0));
        Due.is("a rule that was refused leaves the count", 1, k.p.count(1));
    }

    private static void ruleTakesTheCodeAway() {
        Kit k = new Kit();
        k.staged(k.pure(9));
        k.p.parse(0);
        k.p.rule(0, 0);
        Due.refuses("parse after rule", STATE, () -> k.p.parse(0));
        Due.is("stage again", 0, k.p.stage());
        Due.is("parse after stage", 9, k.p.parse(0));
    }

    private static void noRulesAtAll() {
        Kit k = new Kit();
        k.ruleNode(0);
        Due.is("stage without bodies", 0, k.p.stage());
        Due.is("code without bodies", 1, k.p.count(2));
        Due.refuses("parse without body", ARGUMENT, () -> k.p.parse(0));
    }

    private static Kit faulty(Kit k, int body, int due, String what) {
        k.p.rule(0, body);
        Due.is(what, due, k.p.stage());
        Due.is(what + ", count(2)", due == 0 ? 1 : 0, k.p.count(2));
        return k;
    }

    private static void withoutBody() {
        Kit k = new Kit();
        faulty(k, k.ruleNode(3), 1, "a RULE without body");
        k.p.rule(3, k.pure(1));
        Due.is("with body", 0, k.p.stage());
        Kit deep = new Kit();
        int x = deep.ruleNode(1);
        faulty(deep, deep.then(deep.sign('a'), deep.not(deep.keep(x, 0)), 0), 1, "deep inside a body");
        Kit second = new Kit();
        second.p.rule(4, second.or(second.pure(1), second.ruleNode(2)));
        faulty(second, second.pure(1), 1, "in another rule's body");
    }

    private static void endlessLoops() {
        Kit many = new Kit();
        faulty(many, many.many(many.pure(1), 0), 2, "MANY of an empty one");
        faulty(many, many.many(many.sign('a'), 0), 0, "MANY of a SIGN");
        faulty(many, many.many(many.many(many.sign('a'), 0), 0), 2, "MANY of MANY");
        faulty(many, many.then(many.sign('a'), many.many(many.look(many.sign('a')), 0), 0), 2, "MANY of LOOK inside");
        Kit chain = new Kit();
        int empty = chain.pure(1);
        int full = chain.sign('a');
        faulty(chain, chain.chain(empty, empty), 2, "CHAIN of empty ones");
        faulty(chain, chain.chain(empty, full), 0, "CHAIN with y that takes");
        faulty(chain, chain.chain(full, empty), 0, "CHAIN with x that takes");
        faulty(chain, chain.chain(full, full), 0, "CHAIN where both take");
        Kit byRule = new Kit();
        byRule.p.rule(1, byRule.kept(0));
        faulty(byRule, byRule.many(byRule.ruleNode(1), 0), 2, "MANY of a rule whose body is empty");
        byRule.p.rule(1, byRule.sign('a'));
        Due.is("and of one whose body isn't", 0, byRule.p.stage());
    }

    private static void goingRound() {
        Kit k = new Kit();
        int self = k.ruleNode(0);
        int a = k.sign('a');
        int p = k.pure(0);
        faulty(k, self, 3, "a rule that is itself");
        faulty(k, k.then(self, a, 0), 3, "THEN x");
        faulty(k, k.then(p, self, 0), 3, "THEN y behind an empty x");
        faulty(k, k.then(a, self, 0), 0, "THEN y behind an x that takes");
        faulty(k, k.or(a, self), 3, "OR y");
        faulty(k, k.or(self, a), 3, "OR x");
        faulty(k, k.attempt(self), 3, "TRY");
        faulty(k, k.look(self), 3, "LOOK");
        faulty(k, k.not(self), 3, "NOT");
        faulty(k, k.keep(self, 0), 3, "KEEP");
        faulty(k, k.many(k.then(self, a, 0), 0), 3, "MANY");
        faulty(k, k.chain(self, a), 3, "CHAIN x");
        faulty(k, k.chain(p, k.then(self, a, 0)), 3, "CHAIN y behind an empty x");
        faulty(k, k.chain(a, self), 0, "CHAIN y behind an x that takes");
        int body = k.then(k.not(a), k.ruleNode(5), 0);
        k.p.rule(5, k.then(k.look(a), self, 0));
        faulty(k, body, 3, "over another rule");
    }

    private static void whichCountsFirst() {
        Kit k = new Kit();
        int loop = k.many(k.pure(0), 0);
        int round = k.ruleNode(0);
        int lost = k.ruleNode(4);
        faulty(k, k.or(loop, round), 2, "2 before 3");
        faulty(k, k.or(k.or(loop, round), lost), 1, "1 before 2 and 3");
        faulty(k, k.or(round, lost), 1, "1 before 3");
        k.p.rule(0, round);
        k.p.rule(1, loop);
        Due.is("2 of a later rule before 3 of an earlier", 2, k.p.stage());
        k.p.rule(5, lost);
        Due.is("1 of the last rule before 2 and 3", 1, k.p.stage());
    }

    private static void onlyWhatIsInBodies() {
        Kit k = new Kit();
        k.many(k.pure(0), 0);
        k.ruleNode(4);
        k.chain(k.pure(0), k.pure(1));
        faulty(k, k.sign('a'), 0, "faults in nodes of no body");
        k.p.rule(0, 1);
        Due.is("in the body then", 2, k.p.stage());
        k.p.rule(0, 0);
        Due.is("out of it again", 0, k.p.stage());
    }

    private static void aFaultTakesTheCodeAway() {
        Kit k = new Kit();
        k.staged(k.pure(4));
        k.p.rule(1, k.ruleNode(1));
        Due.is("the fault", 3, k.p.stage());
        Due.refuses("parse of a rule that is well made itself", STATE, () -> k.p.parse(0));
        Due.refuses("parse of no rule", STATE, () -> k.p.parse(-1));
    }
}
