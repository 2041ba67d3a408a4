/** Promise 1, a new object, and promise 13, count. */
public final class NewObjectAndCountTest {
    private static final Class<IllegalArgumentException> ARGUMENT = IllegalArgumentException.class;
    private static final Class<IllegalStateException> STATE = IllegalStateException.class;

    public static void main(String[] args) {
        newObject();
        countOfEach();
        countOfOtherNumbers();
        objectsAreApart();
        Due.end("NewObjectAndCountTest");
    }

    private static void newObject() {
        StagedParsers p = new StagedParsers();
        for (int what = 0; what <= 3; what++) {
            Due.is("new: count(" + what + ")", 0, p.count(what));
            Due.is("new: latest(" + what + ")", 0, p.latest(what));
            Due.is("new: register(" + what + ")", 0, p.register(what));
        }
        for (int r = 0; r < 6; r++) {
            Due.is("new: leads(" + r + ")", 0, p.leads(r));
        }
        Due.refuses("new: parse(0)", STATE, () -> p.parse(0));
        Due.refuses("new: parse(9)", STATE, () -> p.parse(9));
        Due.refuses("new: empty(0)", ARGUMENT, () -> p.empty(0) ? 1 : 0);
        Due.refuses("new: rule(0, 0)", ARGUMENT, () -> p.rule(0, 0));
        Due.is("new: clear()", 0, p.clear());
        Due.is("new: stage()", 0, p.stage());
        Due.refuses("new, staged: parse(0)", ARGUMENT, () -> p.parse(0));
    }

    private static void countOfEach() {
        Kit k = new Kit();
        k.pure(1);
        k.pure(2);
        k.pure(3);
        Due.is("count(0) of three nodes", 3, k.p.count(0));
        k.p.rule(5, 0);
        k.p.rule(2, 0);
        k.p.rule(5, 1);
        Due.is("count(1) of two rules, one given anew", 2, k.p.count(1));
        Due.is("count(2) before stage()", 0, k.p.count(2));
        k.p.stage();
        Due.is("count(2) after stage()", 1, k.p.count(2));
        k.none();
        k.p.type('a');
        Due.is("count(2) after a node and a character more", 1, k.p.count(2));
        Due.refuses("rule(6, 0)", ARGUMENT, () -> k.p.rule(6, 0));
        Due.is("count(2) after a rule that was refused", 1, k.p.count(2));
        k.p.rule(2, 0);
        Due.is("count(2) after the same body again", 0, k.p.count(2));
        k.p.type('b');
        Due.is("count(3) of two characters", 2, k.p.count(3));
        k.p.clear();
        Due.is("count(3) after clear()", 0, k.p.count(3));
        Due.is("count(0) after clear()", 4, k.p.count(0));
    }

    private static void countOfOtherNumbers() {
        StagedParsers p = new StagedParsers();
        int[] others = {-1, 4, 5, 100, Integer.MIN_VALUE, Integer.MAX_VALUE};
        for (int what : others) {
            Due.is("count(" + what + ")", -1, p.count(what));
        }
    }

    private static void objectsAreApart() {
        Kit one = new Kit();
        one.staged(one.keep(one.sign('a'), 0)).text("a");
        one.p.parse(0);
        StagedParsers other = new StagedParsers();
        Due.is("another object's nodes", 0, other.count(0));
        Due.is("another object's text", 0, other.count(3));
        Due.is("another object's register", 0, other.register(0));
        Due.is("another object's latest", 0, other.latest(3));
    }
}
