/** "A parse is TIRED, and ends, when ..": the last that is not yet and the first that is, whatever that stands in. */
public final class TiredEdgeTest {
    private static final String FORTY = States.FORTY;
    private static final int WRAPPINGS = 11;

    public static void main(String[] args) {
        looksUpTo1500();
        theLastLookMayFail();
        noLookMoreIsMade();
        looksInsideOthers();
        looksAreCountedAnew();
        bodiesWithin39Others();
        bodiesWithinOthersOfOtherRules();
        bodiesWithinInsideOthers();
        bodiesThatEndedAreNotWithin();
        bodiesThatFailedAreNotWithin();
        upTo300Bodies();
        bodiesThatFailedAreCounted();
        bodiesInsideOthers();
        bodiesAreCountedAnew();
        manyTiredParses();
        registersOfATiredParse();
        aTiredParseLeavesTheRest();
        Due.end("TiredEdgeTest");
    }

    /** x inside each kind of node that does something when x fails or succeeds. */
    private static int wrapped(Kit k, int x, int how) {
        switch (how) {
            case 0:
                return k.not(x);
            case 1:
                return k.or(x, k.pure(5));
            case 2:
                return k.attempt(x);
            case 3:
                return k.look(x);
            case 4:
                return k.many(x, 2);
            case 5:
                return k.chain(x, k.none());
            case 6:
                return k.chain(k.pure(5), x);
            case 7:
                return k.keep(x, 3);
            case 8:
                return k.or(k.none(), x);
            case 9:
                return k.then(x, k.pure(5), 1);
            default:
                return k.not(k.or(k.attempt(x), k.not(x)));
        }
    }

    /** Rule 0: 1500 looks behind the text's end (or fewer, if that is said), then what comes last. */
    private static Kit looking(int fewer, Kit k, int last) {
        int one = k.not(k.sign('a'));
        k.p.rule(1, k.times(one, 64));
        k.p.rule(2, k.times(k.ruleNode(1), 23));
        k.p.rule(3, k.times(one, 1500 - 23 * 64 - fewer));
        int before = k.keep(k.then(k.ruleNode(2), k.ruleNode(3), 1), 1);
        return k.staged(k.then(before, last, 1));
    }

    /** "when it would look a 1501st time". */
    private static void looksUpTo1500() {
        Kit k = new Kit();
        looking(0, k, k.pure(6)).succeeds("", 6, 0, 1500, 0);
        Kit fewer = new Kit();
        looking(1, fewer, fewer.not(fewer.sign('a'))).succeeds("", 0, 0, 1500, 0);
        Kit more = new Kit();
        looking(0, more, more.not(more.sign('a'))).tires("", 1500, 0);
        Kit sign = new Kit();
        looking(0, sign, sign.sign('b')).tires("b", 1500, 0);
        Kit range = new Kit();
        looking(0, range, range.range(0, 255)).tires("b", 1500, 0);
    }

    private static void theLastLookMayFail() {
        Kit k = new Kit();
        looking(1, k, k.sign('b')).fails("", 0, 1500, 0);
        k.succeeds("b", 'b', 1, 1500, 0);
        Kit none = new Kit();
        looking(0, none, none.none()).fails("", 0, 1500, 0);
    }

    /** The look that would be the 1501st leaves no trace: far stays where the ones before it failed. */
    private static void noLookMoreIsMade() {
        Kit k = new Kit();
        looking(1, k, k.pair('b', 'c'));
        k.tires("b", 1500, 0);
        k.tires("bc", 1500, 0);
        k.fails("", 0, 1500, 0);
    }

    /** It is tired, whatever it stands in: that is no failure that something could go on from. */
    private static void looksInsideOthers() {
        for (int how = 0; how < WRAPPINGS; how++) {
            Kit k = new Kit();
            looking(0, k, wrapped(k, k.sign('b'), how)).tires("b", 1500, 0);
            k.tires("", 1500, 0);
        }
    }

    private static void looksAreCountedAnew() {
        Kit k = new Kit();
        looking(0, k, k.pure(6));
        for (int i = 0; i < 3; i++) {
            k.succeeds("", 6, 0, 1500, 0);
        }
        Kit tired = new Kit();
        tired.p.rule(5, tired.not(tired.sign('a')));
        looking(0, tired, tired.sign('b')).tires("", 1500, 0);
        Due.is("parse(5)", 0, tired.p.parse(5));
        tired.latest("parse(5) after a tired one", 0, 1, 0, 1);
    }

    /** Rule 0: for each c one body within the other, then what is in the innermost. */
    private static Kit nested(Kit k, int innermost) {
        int self = k.ruleNode(0);
        return k.staged(k.or(k.then(k.sign('c'), self, 1), innermost));
    }

    private static String signs(int count) {
        return "c".repeat(count);
    }

    /** "when a rule's body would be run within 40 others". */
    private static void bodiesWithin39Others() {
        Kit k = new Kit();
        nested(k, k.pure(6));
        k.succeeds(signs(38), 6, 38, 39, 38);
        k.succeeds(signs(39), 6, 39, 40, 39);
        k.tires(signs(40), 40, -1);
        k.succeeds(signs(39), 6, 39, 40, 39);
        Kit call = new Kit();
        call.p.rule(5, call.pure(6));
        nested(call, call.ruleNode(5));
        call.succeeds(signs(38), 6, 38, 39, 38);
        call.tires(signs(39), 40, 39);
        Kit leaf = new Kit();
        nested(leaf, leaf.none());
        leaf.fails(signs(39), 39, 40, 39);
        leaf.tires(signs(40), 40, -1);
    }

    /** The others are all bodies that stand open, of whatever rules; the parse's own is one. */
    private static void bodiesWithinOthersOfOtherRules() {
        Kit k = new Kit();
        int c = k.sign('c');
        for (int r = 0; r < 6; r++) {
            k.p.rule(r, k.or(k.then(c, k.ruleNode((r + 1) % 6), 1), k.pure(r)));
        }
        Due.is("stage() of six rules one after the other", 0, k.p.stage());
        k.succeeds(signs(39), 39 % 6, 39, 40, 39);
        k.tires(signs(40), 40, -1);
        Due.refuses("parse(3)", UnsupportedOperationException.class, () -> k.p.parse(3));
        k.text(signs(39));
        Due.is("parse(3)", (3 + 39) % 6, k.p.parse(3));
    }

    private static void bodiesWithinInsideOthers() {
        for (int how = 0; how < WRAPPINGS; how++) {
            Kit k = new Kit();
            k.p.rule(5, k.sign('d'));
            nested(k, wrapped(k, k.ruleNode(5), how));
            k.tires(signs(39), 40, 39);
            k.text(signs(38));
            String told = Due.told(() -> k.p.parse(0));
            Due.is("one less is not tired, but " + told, false, told.equals("throws.UnsupportedOperationException"));
        }
    }

    private static void bodiesThatEndedAreNotWithin() {
        Kit k = new Kit();
        int self = k.ruleNode(0);
        k.p.rule(0, k.or(k.then(k.sign('c'), self, 1), k.pure(6)));
        k.p.rule(1, k.times(k.look(self), 7));
        Due.is("stage()", 0, k.p.stage());
        k.text(signs(38));
        Due.is("seven times 39 bodies within one", 6, k.p.parse(1));
        k.latest("seven times 39 bodies within one", 0, 7 * 39, 38, 1);
        k.text(signs(39));
        Due.refuses("40 bodies within one", UnsupportedOperationException.class, () -> k.p.parse(1));
    }

    private static void bodiesThatFailedAreNotWithin() {
        Kit k = new Kit();
        int self = k.ruleNode(0);
        k.p.rule(0, k.or(k.then(k.sign('c'), self, 1), k.none()));
        k.p.rule(1, k.times(k.not(self), 7));
        Due.is("stage()", 0, k.p.stage());
        k.text(signs(38));
        Due.is("seven times 39 bodies that fail within one", 0, k.p.parse(1));
        k.latest("seven times 39 bodies that fail within one", 0, 7 * 39, 38, 1);
        k.text(signs(39));
        Due.refuses("40 bodies within one", UnsupportedOperationException.class, () -> k.p.parse(1));
    }

    /** Rule 0: 300 bodies with its own (or fewer, if so said), of x and of rules that run it; then what comes last. */
    private static Kit calling(int fewer, Kit k, int x, int last) {
        k.p.rule(1, x);
        int call = k.ruleNode(1);
        k.p.rule(2, k.times(k.or(call, k.pure(0)), 36));
        int rows = k.times(k.ruleNode(2), 7);
        k.p.rule(3, k.times(k.or(call, k.pure(0)), 300 - 1 - 7 * 37 - 1 - fewer));
        return k.staged(k.then(k.keep(rows, 2), k.then(k.ruleNode(3), last, 1), 1));
    }

    /** "or when a 301st body would be run (the parse's own is the first)". */
    private static void upTo300Bodies() {
        Kit k = new Kit();
        calling(0, k, k.pure(3), k.pure(6)).succeeds("", 6, 0, 0, -1);
        Kit more = new Kit();
        calling(0, more, more.pure(3), more.ruleNode(1)).tires("", 0, -1);
        Kit fewer = new Kit();
        calling(1, fewer, fewer.pure(3), fewer.ruleNode(1)).succeeds("", 3, 0, 0, -1);
        Kit row = new Kit();
        calling(37, row, row.pure(3), row.ruleNode(2)).succeeds("", 3, 0, 0, -1);
        Kit rowMore = new Kit();
        calling(36, rowMore, rowMore.pure(3), rowMore.ruleNode(2)).tires("", 0, -1);
        Kit fails = new Kit();
        calling(0, fails, fails.pure(3), fails.sign('a')).fails("", 0, 1, 0);
    }

    private static void bodiesThatFailedAreCounted() {
        Kit k = new Kit();
        calling(0, k, k.none(), k.pure(6)).succeeds("", 6, 0, 0, -1);
        Kit more = new Kit();
        calling(0, more, more.none(), more.ruleNode(1)).tires("", 0, -1);
        Kit fewer = new Kit();
        calling(1, fewer, fewer.none(), fewer.ruleNode(1)).fails("", 0, 0, -1);
    }

    private static void bodiesInsideOthers() {
        for (int how = 0; how < WRAPPINGS; how++) {
            Kit k = new Kit();
            k.p.rule(5, k.sign('d'));
            calling(0, k, k.pure(3), wrapped(k, k.ruleNode(5), how)).tires("", 0, -1);
        }
    }

    private static void bodiesAreCountedAnew() {
        Kit k = new Kit();
        calling(0, k, k.pure(3), k.pure(6));
        for (int i = 0; i < 3; i++) {
            k.succeeds("", 6, 0, 0, -1);
        }
    }

    /** What a parse was in the midst of when it was tired, or failed, is gone when the next one is run. */
    private static void manyTiredParses() {
        Kit k = new Kit();
        int rest = k.ruleNode(0);
        for (int i = 0; i < 5; i++) {
            rest = k.then(k.pure(1), rest, 2);
        }
        k.staged(k.or(k.then(k.sign('c'), rest, 2), k.or(k.sign('d'), k.pure(0))));
        k.p.rule(1, k.then(k.ruleNode(0), k.none(), 0));
        Due.is("stage()", 0, k.p.stage());
        k.text(signs(40));
        for (int i = 0; i < 100; i++) {
            Due.refuses("parse(0)", UnsupportedOperationException.class, () -> k.p.parse(0));
        }
        k.text(signs(38));
        for (int i = 0; i < 100; i++) {
            Due.refuses("parse(1)", java.util.NoSuchElementException.class, () -> k.p.parse(1));
        }
        k.succeeds(signs(39), 39 * ('c' + 5), 39, 41, 39);
    }

    /** "latest: 0 .. (-1 when it was tired)", "Register i, as the latest parse that was run left it". */
    private static void registersOfATiredParse() {
        Kit k = new Kit();
        int self = k.ruleNode(0);
        int row = k.then(k.keep(k.range('a', 'z'), 0), self, 1);
        k.staged(k.or(row, k.keep(k.pure(6), 3)));
        k.succeeds("ab", 6, 2, 3, 2);
        Due.same("registers", "latest -2 2 3 2 1 -2 register 0 98 0 0 6 0", Twins.latest(k.p));
        k.tires(FORTY.substring(1) + "z", 40, -1);
        Due.same("registers when tired", "latest -2 -1 40 -1 0 -2 register 0 122 0 0 0 0", Twins.latest(k.p));
    }

    private static void aTiredParseLeavesTheRest() {
        Twins.Maker looks = k -> {
            looking(0, k, k.sign('b'));
            k.reader(4);
            k.p.stage();
            k.text("xyz");
        };
        Twins.run("tired of looks", UnsupportedOperationException.class, looks, p -> p.parse(0));
        Twins.Maker bodies = k -> {
            calling(0, k, k.pure(3), k.ruleNode(1));
            k.reader(4);
            k.p.stage();
            k.text("xyz");
        };
        Twins.run("tired of bodies", UnsupportedOperationException.class, bodies, p -> p.parse(0));
        Twins.Maker depth = k -> {
            nested(k, k.pure(6));
            k.reader(4);
            k.p.stage();
            k.text(signs(40));
        };
        Twins.run("tired of bodies within others", UnsupportedOperationException.class, depth, p -> p.parse(0));
    }
}
