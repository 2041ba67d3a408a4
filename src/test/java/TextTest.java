/** Promise 8, type, and promise 9, clear. */
public final class TextTest {
    private static final Class<IllegalArgumentException> ARGUMENT = IllegalArgumentException.class;
    private static final Class<IllegalStateException> STATE = IllegalStateException.class;

    public static void main(String[] args) {
        howManyItHas();
        refused();
        charactersStayInOrder();
        clearedTextIsGone();
        Due.end("TextTest");
    }

    private static void howManyItHas() {
        StagedParsers p = new StagedParsers();
        for (int i = 1; i <= 40; i++) {
            Due.is("type", i, p.type((char) (i * 6)));
        }
        Due.refuses("type a 41st", STATE, () -> p.type('a'));
        Due.refuses("type a 41st that is no character", ARGUMENT, () -> p.type((char) 256));
        Due.is("count(3) when full", 40, p.count(3));
        Due.is("clear()", 40, p.clear());
        Due.is("clear() again", 0, p.clear());
        Due.is("type after clear()", 1, p.type('a'));
        Due.is("clear() of one", 1, p.clear());
    }

    private static void refused() {
        StagedParsers p = new StagedParsers();
        Due.is("type 0", 1, p.type((char) 0));
        Due.is("type 255", 2, p.type((char) 255));
        Due.refuses("type 256", ARGUMENT, () -> p.type((char) 256));
        Due.refuses("type 65535", ARGUMENT, () -> p.type((char) 65535));
        Due.is("count(3) after refusals", 2, p.count(3));
    }

    private static void charactersStayInOrder() {
        Kit k = new Kit();
        int digits = k.many(k.range('0', '9'), 5);
        k.staged(digits);
        k.succeeds("90210", 90210, 5, 6, 5);
        Due.is("the text stays", 5, k.p.count(3));
        Due.is("and is parsed again", 90210, k.p.parse(0));
        k.p.type('7');
        Due.is("typed behind it", 902107, k.p.parse(0));
        Due.is("clear() says how many", 6, k.p.clear());
    }

    private static void clearedTextIsGone() {
        Kit k = new Kit();
        k.staged(k.many(k.sign('a'), 2));
        k.text("aaaa");
        k.p.parse(0);
        k.p.clear();
        k.p.type('a');
        Due.is("only what was typed since", 'a', k.p.parse(0));
        Due.is("its place", 1, k.p.latest(0));
    }
}
