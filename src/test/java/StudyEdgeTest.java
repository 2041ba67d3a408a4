/** The edges of what is told without a parse: promises 3 to 7, and EMPTY, CAN BEGIN, LEADS and WELL made in 'Terms'. */
public final class StudyEdgeTest {
    private static final Class<IllegalStateException> STATE = IllegalStateException.class;

    public static void main(String[] args) {
        emptyIsTheLeast();
        emptyWithoutBody();
        emptyOverSixRules();
        emptyByTheBodiesAsTheyAre();
        beginsAtTheEndsOfEachRange();
        beginsIsTheLeast();
        beginsOverSixRules();
        leadsToFirstAndLastRule();
        leadsWithoutBody();
        leadsOverSixRules();
        firstAndLastRule();
        theSameBodyAgain();
        stageOfNoneAndSix();
        withoutBodyEightDeep();
        emptyManyEightDeep();
        emptyChainEightDeep();
        aRuleOfItselfEightDeep();
        theFirstOfThemCounts();
        onlyRulesThatHaveBodies();
        numbersThatAreNoParts();
        aFaultLeavesNoCode();
        stageAgainAndAgain();
        nodesLeaveTheCode();
        Due.end("StudyEdgeTest");
    }

    /** "RULE if the body is (the least such that all this is so ..": what could only be empty by itself isn't. */
    private static void emptyIsTheLeast() {
        for (int how = 0; how < 6; how++) {
            Kit k = new Kit();
            int self = k.ruleNode(0);
            int e = k.pure(1);
            int f = k.sign('a');
            int both = k.then(self, self, 0);
            int[] bodies = {self, both, k.or(self, f), k.attempt(self), k.keep(self, 0), k.chain(self, e)};
            k.p.rule(0, bodies[how]);
            Due.is("empty only by itself, way " + how, false, k.p.empty(self));
            Due.is("and its body", false, k.p.empty(bodies[how]));
            k.p.rule(0, k.or(bodies[how], e));
            Due.is("by itself or PURE, way " + how, true, k.p.empty(self));
            Due.is("and its part", true, k.p.empty(bodies[how]));
        }
    }

    /** "one without a body isn't". */
    private static void emptyWithoutBody() {
        Kit k = new Kit();
        int lost = k.ruleNode(5);
        Due.is("RULE without body", false, k.p.empty(lost));
        Due.is("OR of it and PURE", true, k.p.empty(k.or(lost, k.pure(0))));
        Due.is("THEN of PURE and it", false, k.p.empty(k.then(k.pure(0), lost, 0)));
        k.p.rule(5, k.pure(0));
        Due.is("RULE with an empty body", true, k.p.empty(lost));
    }

    /** Rules 0 .. 5 each run the next one, whichever node was made first. */
    private static int[] sixRules(Kit k, boolean lastFirst) {
        int[] calls = new int[6];
        for (int i = 0; i < 6; i++) {
            int r = lastFirst ? 5 - i : i;
            calls[r] = k.ruleNode(r);
        }
        for (int i = 0; i < 5; i++) {
            int r = lastFirst ? 4 - i : i;
            k.p.rule(r, k.attempt(calls[r + 1]));
        }
        return calls;
    }

    private static void emptyOverSixRules() {
        for (int turn = 0; turn < 2; turn++) {
            Kit k = new Kit();
            int[] calls = sixRules(k, turn == 1);
            Due.is("six rules, the last without body", false, k.p.empty(calls[0]));
            k.p.rule(5, k.sign('a'));
            Due.is("six rules, the last takes", false, k.p.empty(calls[0]));
            k.p.rule(5, k.pure(0));
            Due.is("six rules, the last is empty", true, k.p.empty(calls[0]));
            k.p.rule(5, calls[0]);
            Due.is("six rules in a round", false, k.p.empty(calls[0]));
        }
    }

    /** "by the rules' bodies as they are": whether there is code or not. */
    private static void emptyByTheBodiesAsTheyAre() {
        Kit k = new Kit();
        int call = k.ruleNode(1);
        k.p.rule(1, k.pure(0));
        k.staged(call);
        Due.is("with code", true, k.p.empty(call));
        k.p.rule(1, k.sign('a'));
        Due.is("without code, another body", false, k.p.empty(call));
        Due.is("and begins", true, k.p.begins(call, 'a'));
        Due.is("stage()", 0, k.p.stage());
        Due.is("with code again", false, k.p.empty(call));
    }

    /** "SIGN and RANGE with theirs", "c is not 0 .. 255". */
    private static void beginsAtTheEndsOfEachRange() {
        Kit k = new Kit();
        int[][] ranges = {{0, 0}, {255, 255}, {0, 255}, {1, 254}, {100, 101}};
        for (int[] range : ranges) {
            int n = k.range(range[0], range[1]);
            for (int c : new int[] {0, 1, 99, 100, 101, 102, 254, 255}) {
                String what = "RANGE " + range[0] + ", " + range[1] + " begins with " + c;
                Due.is(what, c >= range[0] && c <= range[1], k.p.begins(n, c));
            }
        }
        for (int own : new int[] {0, 255}) {
            int n = k.sign(own);
            for (int c : new int[] {0, 1, 254, 255}) {
                Due.is("SIGN " + own + " begins with " + c, c == own, k.p.begins(n, c));
            }
        }
    }

    /** "RULE with the body's; the others with none (the least)". */
    private static void beginsIsTheLeast() {
        Kit k = new Kit();
        int self = k.ruleNode(0);
        k.p.rule(0, self);
        Due.is("a rule that is itself", false, k.p.begins(self, 'a'));
        k.p.rule(0, k.or(self, k.sign('a')));
        Due.is("itself or 'a', begins with 'a'", true, k.p.begins(self, 'a'));
        Due.is("itself or 'a', begins with 'b'", false, k.p.begins(self, 'b'));
        k.p.rule(0, k.then(self, k.sign('b'), 0));
        Due.is("itself, then 'b'", false, k.p.begins(self, 'b'));
        k.p.rule(0, k.or(k.pure(0), k.then(self, k.sign('b'), 0)));
        Due.is("nothing, or itself, then 'b'", true, k.p.begins(self, 'b'));
        Due.is("a RULE without body", false, k.p.begins(k.ruleNode(5), 'b'));
        int[] none = {k.pure('b'), k.none(), k.look(k.sign('b')), k.not(k.sign('b')), k.kept(0)};
        for (int n : none) {
            Due.is("node " + n + " begins with none", false, k.p.begins(n, 'b'));
        }
    }

    private static void beginsOverSixRules() {
        for (int turn = 0; turn < 2; turn++) {
            Kit k = new Kit();
            int[] calls = sixRules(k, turn == 1);
            Due.is("six rules, the last without body", false, k.p.begins(calls[0], 255));
            k.p.rule(5, k.sign(255));
            Due.is("six rules, the last begins with 255", true, k.p.begins(calls[0], 255));
            Due.is("and not with 254", false, k.p.begins(calls[0], 254));
            k.p.rule(5, calls[0]);
            Due.is("six rules in a round", false, k.p.begins(calls[0], 255));
        }
    }

    /** "The rules to which rule r leads, as bits". */
    private static void leadsToFirstAndLastRule() {
        Kit k = new Kit();
        int first = k.ruleNode(0);
        int last = k.ruleNode(5);
        for (int r : new int[] {0, 5}) {
            k.p.rule(r, first);
            Due.is("leads(" + r + ") to rule 0", 1, k.p.leads(r));
            k.p.rule(r, k.pure(0));
            k.p.rule(5 - r, k.pure(0));
            k.p.rule(r, last);
            Due.is("leads(" + r + ") to rule 5", 32, k.p.leads(r));
            k.p.rule(r, k.or(first, last));
            Due.is("leads(" + r + ") to both", 33, k.p.leads(r));
            k.p.rule(r, k.pure(0));
            Due.is("leads(" + r + ") to none", 0, k.p.leads(r));
        }
    }

    /** "(0 when it has no body)". */
    private static void leadsWithoutBody() {
        Kit k = new Kit();
        for (int r = 0; r < 6; r++) {
            Due.is("leads(" + r + ") without body", 0, k.p.leads(r));
        }
        k.p.rule(0, k.ruleNode(5));
        Due.is("to a rule without body", 32, k.p.leads(0));
        Due.is("that rule", 0, k.p.leads(5));
    }

    /** "a rule leads to what its body leads to, and what these rules lead to". */
    private static void leadsOverSixRules() {
        for (int turn = 0; turn < 2; turn++) {
            Kit k = new Kit();
            int[] calls = sixRules(k, turn == 1);
            for (int r = 0; r < 6; r++) {
                Due.is("leads(" + r + ") in a row", 63 & -2 << r, k.p.leads(r));
            }
            k.p.rule(5, calls[0]);
            for (int r = 0; r < 6; r++) {
                Due.is("leads(" + r + ") in a round", 63, k.p.leads(r));
            }
            k.p.rule(2, k.then(k.sign('a'), calls[3], 0));
            Due.is("leads(0), cut behind rule 2", 6, k.p.leads(0));
            Due.is("leads(2), cut", 0, k.p.leads(2));
            Due.is("leads(3), cut before it", 63 - 8, k.p.leads(3));
        }
    }

    /** "Rule r gets a body .. How many rules have one." */
    private static void firstAndLastRule() {
        Kit k = new Kit();
        k.pure(4);
        k.pure(5);
        Due.is("rule(5)", 1, k.p.rule(5, 1));
        Due.is("rule(0)", 2, k.p.rule(0, 0));
        for (int r = 1; r <= 4; r++) {
            Due.is("rule(" + r + ")", 2 + r, k.p.rule(r, 0));
        }
        Due.is("rule(5) once more", 6, k.p.rule(5, 0));
        Due.is("rules", 6, k.p.count(1));
        k.p.rule(5, 1);
        Due.is("stage()", 0, k.p.stage());
        Due.is("parse(0)", 4, k.p.parse(0));
        Due.is("parse(5)", 5, k.p.parse(5));
    }

    /** "in place of the one that it has; there is no code then": also when it is the same. */
    private static void theSameBodyAgain() {
        Kit k = new Kit();
        k.staged(k.pure(4));
        Due.is("the same body again", 1, k.p.rule(0, 0));
        Due.is("code", 0, k.p.count(2));
        Due.refuses("parse(0)", STATE, () -> k.p.parse(0));
        Due.is("stage()", 0, k.p.stage());
        Due.is("stage() again", 0, k.p.stage());
        Due.is("code", 1, k.p.count(2));
    }

    private static void stageOfNoneAndSix() {
        Kit none = new Kit();
        Due.is("stage() without nodes", 0, none.p.stage());
        Due.is("code", 1, none.p.count(2));
        Kit six = new Kit();
        for (int r = 0; r < 6; r++) {
            six.p.rule(r, six.pure(10 + r));
        }
        Due.is("stage() of six rules", 0, six.p.stage());
        for (int r = 0; r < 6; r++) {
            Due.is("parse(" + r + ")", 10 + r, six.p.parse(r));
        }
    }

    private static void stages(String what, int due, Kit k, int r, int body) {
        k.p.rule(r, body);
        Due.is(what, due, k.p.stage());
        Due.is(what + ", code", due == 0 ? 1 : 0, k.p.count(2));
    }

    /** "1 in some body, or in what it is made of, is a RULE without body": as deep as can be, in each rule. */
    private static void withoutBodyEightDeep() {
        for (int r = 0; r < 6; r++) {
            int other = (r + 1) % 6;
            Kit k = new Kit();
            int deep = k.raised(k.ruleNode(other), 7);
            stages("RULE " + other + " without body, in rule " + r, 1, k, r, deep);
            stages("RULE " + other + " with a body", 0, k, other, k.sign('a'));
        }
        Kit second = new Kit();
        int row = second.ruleNode(5);
        for (int i = 0; i < 7; i++) {
            row = second.then(second.sign('a'), row, 0);
        }
        stages("without body, where no rule leads", 1, second, 0, row);
    }

    /** "2 .. is a MANY whose x is empty". */
    private static void emptyManyEightDeep() {
        for (int r = 0; r < 6; r++) {
            Kit k = new Kit();
            stages("MANY of PURE in rule " + r, 2, k, r, k.raised(k.many(k.pure(0), 0), 6));
            stages("MANY of SIGN in rule " + r, 0, k, r, k.raised(k.many(k.sign('a'), 0), 6));
        }
        Kit behind = new Kit();
        int sign = behind.sign('a');
        stages("behind something that takes", 2, behind, 0, behind.then(sign, behind.many(behind.kept(0), 0), 0));
    }

    /** "or a CHAIN whose x and y both are". */
    private static void emptyChainEightDeep() {
        for (int r = 0; r < 6; r++) {
            Kit k = new Kit();
            int e = k.pure(0);
            int f = k.sign('a');
            stages("CHAIN of both empty in rule " + r, 2, k, r, k.raised(k.chain(e, e), 6));
            stages("CHAIN with an empty x in rule " + r, 0, k, r, k.raised(k.chain(e, f), 6));
            stages("CHAIN with an empty y in rule " + r, 0, k, r, k.raised(k.chain(f, e), 6));
        }
    }

    /** "3 a rule leads to itself". */
    private static void aRuleOfItselfEightDeep() {
        for (int r = 0; r < 6; r++) {
            Kit k = new Kit();
            int self = k.ruleNode(r);
            stages("rule " + r + " of itself", 3, k, r, k.raised(self, 7));
            stages("rule " + r + " behind a sign", 0, k, r, k.raised(k.then(k.sign('a'), self, 0), 6));
        }
        Kit round = new Kit();
        int[] calls = sixRules(round, false);
        stages("six rules in a round", 3, round, 5, calls[0]);
        stages("six rules in a round, one takes first", 0, round, 5, round.then(round.sign('a'), calls[0], 0));
    }

    /** "if none of these is so, the first of which counts": each of them alone, and together with the others. */
    private static void theFirstOfThemCounts() {
        for (int faults = 0; faults < 8; faults++) {
            for (int turn = 0; turn < 6; turn++) {
                Kit k = new Kit();
                int fine = k.sign('a');
                int[] bad = {k.ruleNode(5), k.many(k.pure(0), 0), 0};
                for (int i = 0; i < 3; i++) {
                    // Each fault stands in a rule of its own, now before and now behind the others.
                    int rule = turn < 3 ? (i + turn) % 3 : (5 - i + turn) % 3;
                    bad[2] = k.ruleNode(rule);
                    k.p.rule(rule, (faults >> i & 1) == 1 ? bad[i] : fine);
                }
                int due = faults == 0 ? 0 : 1 + Integer.numberOfTrailingZeros(faults);
                Due.is("stage() with faults " + faults + ", turn " + turn, due, k.p.stage());
            }
        }
    }

    /** "The rules that have bodies": nodes in no body don't count, nor does a body that was replaced. */
    private static void onlyRulesThatHaveBodies() {
        Kit k = new Kit();
        int fine = k.sign('a');
        int[] bad = {k.ruleNode(5), k.many(k.pure(0), 0), k.ruleNode(0), k.chain(k.pure(0), k.pure(0))};
        int[] due = {1, 2, 3, 2};
        stages("faults in no body", 0, k, 0, fine);
        for (int i = 0; i < bad.length; i++) {
            stages("fault in a body", due[i], k, 0, bad[i]);
            stages("fault in a body that was replaced", 0, k, 0, fine);
        }
    }

    /** "in what it is made of": a way, a register, a rule or a character isn't the node of that number. */
    private static void numbersThatAreNoParts() {
        Kit k = new Kit();
        k.ruleNode(5);
        k.pure(0);
        k.many(1, 0);
        k.chain(1, 1);
        for (int n = 4; n < 8; n++) {
            k.many(1, 0);
        }
        int fine = k.sign('a');
        for (int number = 0; number < 8; number++) {
            int n = number;
            int[] bodies = {k.many(fine, n), k.then(fine, fine, n), k.pure(n), k.sign(n), k.range(n, n)};
            for (int body : bodies) {
                stages("node " + body + " with " + n + ", which is no part", 0, k, 0, body);
            }
            if (n < 4) {
                stages("KEEP in register " + n, 0, k, 0, k.keep(fine, n));
                stages("KEPT in register " + n, 0, k, 0, k.kept(n));
            }
        }
    }

    /** "otherwise what isn't so (1 .. 3), and there is no code": also when there was. */
    private static void aFaultLeavesNoCode() {
        for (int fault = 1; fault <= 3; fault++) {
            Kit k = new Kit();
            k.staged(k.pure(4));
            k.p.parse(0);
            int[] bad = {k.ruleNode(5), k.many(k.pure(0), 0), k.ruleNode(1)};
            stages("fault " + fault, fault, k, 1, bad[fault - 1]);
            Due.refuses("parse(0) then", STATE, () -> k.p.parse(0));
            Due.is("stage() again", fault, k.p.stage());
            Due.is("rules then", 2, k.p.count(1));
            stages("mended", 0, k, 1, k.sign('a'));
            Due.is("parse(0) then", 4, k.p.parse(0));
        }
    }

    /** "Makes the code": with 80 nodes, as often as an object is used; the code is that of the bodies then. */
    private static void stageAgainAndAgain() {
        Kit k = new Kit();
        k.sign('a');
        k.sign('b');
        for (int n = 2; n < 80; n++) {
            k.chain(n % 2, (n + 1) % 2);
        }
        k.text("aba");
        for (int turn = 0; turn < 20; turn++) {
            for (int r = 0; r < 6; r++) {
                k.p.rule(r, 79 - (turn + r) % 6);
            }
            Due.is("stage() number " + turn, 0, k.p.stage());
            for (int r = 0; r < 6; r++) {
                int rule = r;
                boolean fits = (turn + r) % 2 == 1;
                String due = fits ? Integer.toString('a') : "throws.NoSuchElementException";
                Due.same("parse(" + r + ") then", due, Due.told(() -> k.p.parse(rule)));
            }
        }
    }

    /** Only rule() and stage() are said to take the code away. */
    private static void nodesLeaveTheCode() {
        Kit k = new Kit();
        k.staged(k.pure(4));
        for (int n = 1; n < 80; n++) {
            k.many(0, 0);
        }
        Due.is("code after 79 nodes more", 1, k.p.count(2));
        Due.is("parse(0)", 4, k.p.parse(0));
        k.p.type('a');
        k.p.clear();
        Due.is("code after type() and clear()", 1, k.p.count(2));
        Due.is("stage() again", 0, k.p.stage());
        Due.is("parse(0) again", 4, k.p.parse(0));
    }
}
