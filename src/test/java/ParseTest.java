/** Promise 10: parse; what each kind of node does when it is run, and when a parse is tired. */
public final class ParseTest {
    private static final Class<IllegalArgumentException> ARGUMENT = IllegalArgumentException.class;
    private static final Class<IllegalStateException> STATE = IllegalStateException.class;
    private static final int LEAST = Integer.MIN_VALUE;
    private static final int MOST = Integer.MAX_VALUE;
    private static final String FORTY = "a".repeat(40);

    public static void main(String[] args) {
        refused();
        singles();
        thenJoins();
        choices();
        tryLookNot();
        manyOnes();
        chains();
        chainsWithEmptyParts();
        registers();
        rules();
        calculator();
        tiredOfLooks();
        tiredOfBodies();
        tiredOfDepth();
        failedBodiesAreLeft();
        deepestStack();
        withEightyNodes();
        Due.end("ParseTest");
    }

    private static void refused() {
        Kit k = new Kit();
        k.p.rule(2, k.pure(7));
        Due.refuses("no code", STATE, () -> k.p.parse(2));
        Due.refuses("no code and no such rule", STATE, () -> k.p.parse(6));
        k.p.stage();
        int[] bad = {-1, 6, LEAST, MOST, 0, 1, 3};
        for (int r : bad) {
            Due.refuses("parse(" + r + ")", ARGUMENT, () -> k.p.parse(r));
        }
        Due.is("none was run", 0, k.p.latest(3));
        Due.is("parse(2)", 7, k.p.parse(2));
    }

    private static void singles() {
        Kit pure = new Kit();
        pure.staged(pure.pure(LEAST)).succeeds("a", LEAST, 0, 0, -1);
        Kit sign = new Kit();
        sign.staged(sign.sign('b'));
        sign.succeeds("bb", 'b', 1, 1, -1);
        sign.fails("ab", 0, 1, 0);
        sign.fails("", 0, 1, 0);
        Kit zero = new Kit();
        zero.staged(zero.sign(0));
        zero.succeeds("\0", 0, 1, 1, -1);
        zero.fails("", 0, 1, 0);
        Kit range = new Kit();
        range.staged(range.range(0, 255));
        range.succeeds("\u00ff", 255, 1, 1, -1);
        range.succeeds("\0", 0, 1, 1, -1);
        range.fails("", 0, 1, 0);
        Kit some = new Kit();
        some.staged(some.range('c', 'e'));
        some.fails("b", 0, 1, 0);
        some.succeeds("c", 'c', 1, 1, -1);
        some.succeeds("e", 'e', 1, 1, -1);
        some.fails("f", 0, 1, 0);
        Kit none = new Kit();
        none.staged(none.none()).fails("a", 0, 0, -1);
    }

    private static void join(int way, int v, int w, int due) {
        Kit k = new Kit();
        k.staged(k.then(k.pure(v), k.pure(w), way));
        Due.is(v + " joined by " + way + " with " + w, due, k.p.parse(0));
    }

    private static void thenJoins() {
        int[] due = {6, 4, 10, 2, 24, 16, 6, 0};
        for (int way = 0; way < 8; way++) {
            join(way, 6, 4, due[way]);
        }
        join(6, 4, 6, 6);
        join(6, -4, -6, -4);
        join(7, 5, 5, 1);
        join(7, -5, 5, 0);
        join(3, 4, 6, -2);
        join(2, MOST, 1, LEAST);
        join(3, LEAST, 1, MOST);
        join(4, MOST, 2, -2);
        join(4, LEAST, -1, LEAST);
        join(5, MOST, 0, -58);
        join(6, LEAST, MOST, MOST);
        Kit k = new Kit();
        k.staged(k.then(k.pair('a', 'b'), k.sign('c'), 3));
        k.succeeds("abc", 'b' - 'c', 3, 3, -1);
        k.fails("ab", 2, 3, 2);
        k.fails("ax", 1, 2, 1);
        k.fails("x", 0, 1, 0);
    }

    private static void choices() {
        Kit k = new Kit();
        k.staged(k.or(k.pair('a', 'b'), k.or(k.pair('a', 'c'), k.pair('d', 'e'))));
        k.succeeds("ab", 'b', 2, 2, -1);
        k.fails("ac", 1, 2, 1);
        k.succeeds("de", 'e', 2, 4, 0);
        k.fails("dx", 1, 4, 1);
        k.fails("x", 0, 3, 0);
        Kit first = new Kit();
        first.staged(first.or(first.pure(1), first.pure(2))).succeeds("", 1, 0, 0, -1);
        Kit inner = new Kit();
        int choice = inner.or(inner.pair('x', 'y'), inner.pure(9));
        inner.staged(inner.then(inner.sign('a'), choice, 1));
        inner.succeeds("ab", 9, 1, 2, 1);
        inner.fails("axb", 2, 3, 2);
    }

    private static void tryLookNot() {
        Kit attempt = new Kit();
        attempt.staged(attempt.or(attempt.attempt(attempt.pair('a', 'b')), attempt.pair('a', 'c')));
        attempt.succeeds("ab", 'b', 2, 2, -1);
        attempt.succeeds("ac", 'c', 2, 4, 1);
        attempt.fails("ad", 1, 4, 1);
        Kit behind = new Kit();
        behind.staged(behind.then(behind.sign('z'), behind.attempt(behind.pair('a', 'b')), 1));
        behind.fails("zax", 1, 3, 2);
        Kit look = new Kit();
        int ahead = look.look(look.pair('a', 'b'));
        look.staged(look.then(look.sign('z'), look.then(ahead, look.sign('a'), 2), 1));
        look.succeeds("zab", 'b' + 'a', 2, 4, -1);
        look.fails("zac", 2, 3, 2);
        Kit not = new Kit();
        int unlike = not.not(not.pair('a', 'b'));
        not.staged(not.then(not.sign('z'), not.then(unlike, not.sign('a'), 2), 1));
        not.fails("zab", 1, 3, -1);
        not.succeeds("zac", 'a', 2, 4, 2);
        not.fails("zx", 1, 3, 1);
        Kit twice = new Kit();
        twice.staged(twice.not(twice.not(twice.sign('a'))));
        twice.succeeds("a", 0, 0, 1, -1);
        twice.fails("b", 0, 1, 0);
        Kit deep = new Kit();
        deep.staged(deep.not(deep.then(deep.sign('a'), deep.attempt(deep.pair('b', 'c')), 0)));
        deep.succeeds("abx", 0, 0, 3, 2);
    }

    private static void manyOnes() {
        Kit k = new Kit();
        k.staged(k.many(k.sign('a'), 2));
        k.succeeds("", 0, 0, 1, 0);
        k.succeeds("b", 0, 0, 1, 0);
        k.succeeds("aab", 2 * 'a', 2, 3, 2);
        k.succeeds(FORTY, 40 * 'a', 40, 41, 40);
        int[] due = {0, '3', '1' + '3', -'1' - '3', 0, 13, '3', 0};
        for (int way = 0; way < 8; way++) {
            Kit each = new Kit();
            each.staged(each.many(each.range('0', '9'), way));
            each.succeeds("13", due[way], 2, 3, 2);
        }
        Kit pairs = new Kit();
        pairs.staged(pairs.many(pairs.pair('a', 'b'), 2));
        pairs.succeeds("ababx", 2 * 'b', 4, 5, 4);
        pairs.fails("abax", 3, 4, 3);
        Kit tried = new Kit();
        tried.staged(tried.many(tried.attempt(tried.pair('a', 'b')), 2));
        tried.succeeds("abax", 'b', 2, 4, 3);
        Kit digits = new Kit();
        digits.staged(digits.many(digits.range('0', '9'), 5));
        digits.succeeds("99999999999", (int) 99999999999L, 11, 12, 11);
    }

    private static void chains() {
        Kit k = new Kit();
        k.staged(k.chain(k.many(k.range('0', '9'), 5), k.range('*', '/')));
        k.succeeds("7", 7, 1, 3, 1);
        k.succeeds("7+5", 12, 3, 6, 3);
        k.succeeds("7-5-4", -2, 5, 9, 5);
        k.succeeds("7*5*4", 140, 5, 9, 5);
        k.succeeds("7/5,4.3", 7, 7, 12, 7);
        k.succeeds("2+3*4-1", 19, 7, 12, 7);
        Kit strict = new Kit();
        strict.staged(strict.chain(strict.sign('x'), strict.sign('+')));
        strict.fails("", 0, 1, 0);
        strict.succeeds("x", 'x', 1, 2, 1);
        strict.succeeds("x+xx", 2 * 'x', 3, 4, 3);
        strict.fails("x+", 2, 3, 2);
        strict.fails("x+y", 2, 3, 2);
        Kit between = new Kit();
        between.staged(between.chain(between.sign('x'), between.pair(',', '-')));
        between.succeeds("x,-x", 0, 4, 5, 4);
        between.fails("x,x", 2, 3, 2);
        Kit tried = new Kit();
        tried.staged(tried.chain(tried.sign('x'), tried.attempt(tried.pair(',', '-'))));
        tried.succeeds("x,x", 'x', 1, 3, 2);
    }

    private static void chainsWithEmptyParts() {
        Kit ofY = new Kit();
        ofY.staged(ofY.chain(ofY.range('1', '9'), ofY.pure('+')));
        ofY.succeeds("123", '1' + '2' + '3', 3, 4, 3);
        ofY.succeeds("12x", '1' + '2', 2, 3, 2);
        Kit ofX = new Kit();
        ofX.staged(ofX.chain(ofX.kept(0), ofX.sign('-')));
        ofX.succeeds("--x", 0, 2, 3, 2);
        Kit taken = new Kit();
        taken.staged(taken.chain(taken.pair('a', 'b'), taken.look(taken.sign('a'))));
        taken.succeeds("ababc", 'b', 4, 6, 4);
        taken.fails("abac", 3, 5, 3);
    }

    private static void registers() {
        Kit k = new Kit();
        int kept = k.keep(k.sign('a'), 1);
        int failing = k.attempt(k.then(kept, k.sign('b'), 0));
        k.staged(k.or(failing, k.then(k.sign('a'), k.kept(1), 3)));
        k.succeeds("ac", 0, 1, 3, 1);
        Due.is("kept, though it failed later", 'a', k.p.register(1));
        Kit unkept = new Kit();
        int pair = unkept.keep(unkept.attempt(unkept.pair('a', 'b')), 0);
        unkept.staged(unkept.or(pair, unkept.kept(0)));
        unkept.succeeds("ac", 0, 0, 2, 1);
        unkept.succeeds("ab", 'b', 2, 2, -1);
        unkept.succeeds("ac", 0, 0, 2, 1);
        Kit inside = new Kit();
        int hidden = inside.not(inside.then(inside.keep(inside.sign('a'), 3), inside.none(), 0));
        inside.staged(inside.then(hidden, inside.kept(3), 1));
        inside.succeeds("a", 'a', 0, 1, -1);
        Kit again = new Kit();
        again.staged(again.then(again.kept(2), again.keep(again.pure(5), 2), 2));
        again.succeeds("", 5, 0, 0, -1);
        again.succeeds("", 5, 0, 0, -1);
    }

    private static void rules() {
        Kit k = new Kit();
        int call = k.ruleNode(1);
        k.p.rule(1, k.pair('a', 'b'));
        k.staged(k.or(call, k.sign('c')));
        k.succeeds("ab", 'b', 2, 2, -1);
        k.fails("ac", 1, 2, 1);
        k.succeeds("c", 'c', 1, 2, 0);
        Due.refuses("the other rule by itself", java.util.NoSuchElementException.class, () -> k.p.parse(1));
        k.text("ab");
        Due.is("and where it succeeds", 'b', k.p.parse(1));
    }

    private static void calculator() {
        Kit k = new Kit();
        int digit = k.range('0', '9');
        int number = k.then(k.look(digit), k.many(digit, 5), 1);
        int inner = k.then(k.then(k.sign('('), k.ruleNode(0), 1), k.sign(')'), 0);
        k.p.rule(2, k.or(inner, number));
        k.p.rule(1, k.chain(k.ruleNode(2), k.sign('*')));
        k.staged(k.chain(k.ruleNode(1), k.or(k.sign('+'), k.sign('-'))));
        k.succeeds("2*(3+4)-5*(6-(7-8))", 2 * (3 + 4) - 5 * (6 - (7 - 8)), 19, looksOfCalculation(), 19);
        k.fails("2*(3+4", 6, 20, 6);
        k.fails("2+", 2, 8, 2);
    }

    // Counted by hand along the text: for each number '(', a digit's LOOK, its digits and the one that ends
    // them; behind each factor '*', behind each term '+' and '-'.
    private static int looksOfCalculation() {
        int number = 4;
        int star = 1;
        int plusFails = 1;
        int minusFails = 1;
        int looks = number + star;
        looks += 1 + (number + star + plusFails) + (number + star + plusFails + minusFails) + 1;
        looks += star + plusFails + minusFails;
        looks += number + star;
        looks += 1 + (number + star + plusFails + minusFails);
        looks += 1 + (number + star + plusFails + minusFails) + (number + star + plusFails + minusFails) + 1;
        looks += star + plusFails + minusFails + 1;
        looks += star + plusFails + minusFails;
        return looks;
    }

    /** A node that makes 2 to the power of doublings times the looks, or runs, of x. */
    private static int doubled(Kit k, int x, int doublings) {
        int node = x;
        for (int i = 0; i < doublings; i++) {
            node = k.then(node, node, 1);
        }
        return node;
    }

    private static Kit looking(int last) {
        Kit k = new Kit();
        int forty = k.look(k.many(k.sign('a'), 2));
        int one = k.look(k.sign('a'));
        k.p.rule(1, doubled(k, forty, 5));
        int few = k.then(doubled(k, one, 4), doubled(k, one, 3), 1);
        k.p.rule(2, k.then(doubled(k, forty, 2), few, 1));
        int ends = last == 0 ? k.pure(1) : last == 1 ? k.sign('a') : k.sign('x');
        int first = k.keep(k.then(k.ruleNode(1), k.ruleNode(2), 1), 0);
        k.staged(k.then(first, ends, 1));
        return k;
    }

    private static void tiredOfLooks() {
        Kit ends = looking(0);
        ends.succeeds(FORTY, 1, 0, 1500, 40);
        Kit takes = looking(1);
        takes.tires(FORTY, 1500, 40);
        Due.is("the register when it was tired", 'a', takes.p.register(0));
        Due.is("the text stays", 40, takes.p.count(3));
        Due.is("the code stays", 1, takes.p.count(2));
        looking(2).tires(FORTY, 1500, 40);
        takes.succeeds(FORTY.substring(1), 'a', 1, 1500 - 36 + 1, 39);
    }

    private static Kit calling(int lastCalls) {
        Kit k = new Kit();
        int call = k.ruleNode(1);
        k.p.rule(1, k.pure(3));
        k.p.rule(2, doubled(k, call, 7));
        int twice = doubled(k, k.ruleNode(2), 1);
        int last = doubled(k, call, lastCalls);
        int rest = k.then(doubled(k, call, 5), k.then(doubled(k, call, 3), last, 1), 1);
        return k.staged(k.then(twice, rest, 1));
    }

    private static void tiredOfBodies() {
        calling(0).succeeds("", 3, 0, 0, -1);
        calling(1).tires("", 0, -1);
    }

    private static void tiredOfDepth() {
        Kit k = new Kit();
        int self = k.ruleNode(0);
        k.staged(k.or(k.then(k.sign('a'), self, 2), k.pure(0)));
        k.succeeds(FORTY.substring(1), 39 * 'a', 39, 40, 39);
        k.tires(FORTY, 40, -1);
        k.succeeds(FORTY.substring(2), 38 * 'a', 38, 39, 38);
    }

    private static void failedBodiesAreLeft() {
        Kit k = new Kit();
        k.p.rule(1, k.none());
        k.p.rule(2, k.then(k.ruleNode(3), k.pure(0), 0));
        k.p.rule(3, k.attempt(k.pair('a', 'b')));
        int failing = k.or(k.or(k.ruleNode(1), k.ruleNode(2)), k.pure(6));
        k.staged(doubled(k, failing, 5));
        k.succeeds("ac", 6, 0, 64, 1);
    }

    private static void deepestStack() {
        Kit k = new Kit();
        int self = k.ruleNode(0);
        int x = k.then(k.sign('a'), self, 2);
        for (int i = 0; i < 5; i++) {
            x = i % 2 == 0 ? k.chain(x, k.sign('x')) : k.attempt(x);
        }
        k.staged(k.or(x, k.pure(0)));
        k.succeeds(FORTY.substring(1), 39 * 'a', 39, 40 + 39 * 3, 39);
        Kit values = new Kit();
        int rest = values.ruleNode(0);
        for (int i = 0; i < 5; i++) {
            rest = values.then(values.pure(1), rest, 2);
        }
        values.staged(values.or(values.then(values.sign('a'), rest, 2), values.pure(0)));
        values.succeeds(FORTY.substring(1), 39 * ('a' + 5), 39, 40, 39);
    }

    /** A SIGN and 79 CHAINs over it, each of which is a part of the next higher one: as much code as can be. */
    private static void withEightyNodes() {
        Kit k = new Kit();
        int leaf = k.sign('a');
        for (int heap = 79; heap >= 1; heap--) {
            int x = 2 * heap <= 79 ? 80 - 2 * heap : leaf;
            int y = 2 * heap + 1 <= 79 ? 80 - (2 * heap + 1) : leaf;
            k.chain(x, y);
        }
        k.staged(79);
        Due.is("nodes", 80, k.p.count(0));
        Due.is("the last of 80 is empty", false, k.p.empty(79));
        Due.is("the last of 80 can begin", true, k.p.begins(79, 'a'));
        Due.is("the rule of the last of 80 leads", 0, k.p.leads(0));
        k.succeeds("a", 'a', 1, 8, 1);
        k.fails("aa", 2, 3, 2);
    }
}
