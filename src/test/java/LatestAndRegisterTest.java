import java.util.NoSuchElementException;

/** Promise 11, latest, and promise 12, register. */
public final class LatestAndRegisterTest {
    private static final int LEAST = Integer.MIN_VALUE;
    private static final int MOST = Integer.MAX_VALUE;

    public static void main(String[] args) {
        otherNumbers();
        afterEachKindOfEnd();
        onlyParsesThatWereRun();
        farIsTheGreatestPlace();
        registersOfTheLatestParse();
        Due.end("LatestAndRegisterTest");
    }

    private static void otherNumbers() {
        Kit k = new Kit();
        int[] others = {-1, 4, 5, 100, LEAST, MOST};
        for (int what : others) {
            Due.is("before a parse, latest(" + what + ")", -2, k.p.latest(what));
            Due.is("before a parse, register(" + what + ")", 0, k.p.register(what));
        }
        int all = k.keep(k.keep(k.keep(k.keep(k.pure(8), 0), 1), 2), 3);
        k.staged(all).p.parse(0);
        for (int what : others) {
            Due.is("after a parse, latest(" + what + ")", -2, k.p.latest(what));
            Due.is("after a parse, register(" + what + ")", 0, k.p.register(what));
        }
        for (int i = 0; i < 4; i++) {
            Due.is("register(" + i + ")", 8, k.p.register(i));
        }
    }

    private static Kit threeEnds() {
        Kit k = new Kit();
        int self = k.ruleNode(0);
        int row = k.then(k.keep(k.sign('a'), 0), self, 2);
        return k.staged(k.or(row, k.or(k.pair('b', 'c'), k.not(k.sign('d')))));
    }

    private static void afterEachKindOfEnd() {
        Kit k = threeEnds();
        k.succeeds("aae", 2 * 'a', 2, 5, 2);
        k.fails("aab", 3, 5, 3);
        k.fails("aad", 2, 5, 2);
        k.tires("a".repeat(40), 40, -1);
        k.succeeds("", 0, 0, 3, 0);
    }

    private static void onlyParsesThatWereRun() {
        Kit k = threeEnds();
        k.succeeds("a", 'a', 1, 4, 1);
        Due.refuses("parse(1) without body", IllegalArgumentException.class, () -> k.p.parse(1));
        Due.refuses("parse(7)", IllegalArgumentException.class, () -> k.p.parse(7));
        k.latest("after parses that were refused", 1, 4, 1, 1);
        Due.is("register after parses that were refused", 'a', k.p.register(0));
        k.p.clear();
        k.p.rule(1, k.pure(1));
        Due.refuses("parse without code", IllegalStateException.class, () -> k.p.parse(0));
        k.p.stage();
        k.latest("after rule, stage and clear", 1, 4, 1, 1);
        Due.is("register after rule, stage and clear", 'a', k.p.register(0));
        k.p.parse(1);
        k.latest("after another rule's parse", 0, 0, -1, 1);
    }

    private static void farIsTheGreatestPlace() {
        Kit k = new Kit();
        int far = k.attempt(k.then(k.pair('a', 'b'), k.sign('c'), 1));
        k.staged(k.or(far, k.or(k.look(k.none()), k.sign('x'))));
        k.fails("abd", 0, 4, 2);
        Kit last = new Kit();
        last.staged(last.then(last.many(last.sign('a'), 0), last.sign('b'), 1));
        last.succeeds("aab", 'b', 3, 4, 2);
        Kit no = new Kit();
        no.staged(no.not(no.pair('a', 'b')));
        no.succeeds("ax", 0, 0, 2, 1);
        no.fails("ab", 0, 2, -1);
    }

    private static void registersOfTheLatestParse() {
        Kit k = new Kit();
        int digit = k.range('0', '9');
        int two = k.then(k.keep(digit, 0), k.keep(digit, 3), 5);
        k.staged(k.keep(two, 2));
        k.succeeds("42", 10 * '4' + '2' - '0', 2, 2, -1);
        Due.is("register(0)", '4', k.p.register(0));
        Due.is("register(1)", 0, k.p.register(1));
        Due.is("register(2)", 10 * '4' + '2' - '0', k.p.register(2));
        Due.is("register(3)", '2', k.p.register(3));
        k.text("7");
        Due.refuses("parse(0) of '7'", NoSuchElementException.class, () -> k.p.parse(0));
        Due.is("register(0) of a parse that failed", '7', k.p.register(0));
        Due.is("register(2) is 0 again", 0, k.p.register(2));
        Due.is("register(3) is 0 again", 0, k.p.register(3));
        Kit over = new Kit();
        over.staged(over.many(over.keep(over.range(0, 255), 1), 1));
        over.succeeds("xyz", 'z', 3, 4, 3);
        Due.is("the latest answer that was kept", 'z', over.p.register(1));
    }
}
