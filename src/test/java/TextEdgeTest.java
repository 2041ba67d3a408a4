/** The edges of the text: 'Terms', promise 8, type, and promise 9, clear; looks at its ends, and far. */
public final class TextEdgeTest {
    private static final Class<IllegalArgumentException> ARGUMENT = IllegalArgumentException.class;
    private static final Class<IllegalStateException> STATE = IllegalStateException.class;
    private static final String FORTY = States.FORTY;

    public static void main(String[] args) {
        fortyCharacters();
        firstAndLastCharacter();
        everyCharacterIsKept();
        placesFromZeroOn();
        argumentsCountBeforeFullness();
        clearOfNoneOneAndForty();
        lookBehindTheEnd();
        lookBehindTheEndAfterClear();
        farIsTheGreatest();
        farWhereNoLookFailed();
        theTextStays();
        Due.end("TextEdgeTest");
    }

    /** "TEXT is at most 40 characters", "IllegalStateException when the text has 40". */
    private static void fortyCharacters() {
        Twins.Maker forty = k -> {
            k.reader(0);
            k.p.stage();
            for (int i = 1; i <= 40; i++) {
                Due.is("type a character, the text has", i, k.p.type((char) (200 + i)));
            }
        };
        Twins.refused("type a 41st", STATE, forty, p -> p.type('a'));
        Kit k = new Kit();
        forty.make(k);
        Due.refuses("type a 41st", STATE, () -> k.p.type('a'));
        Due.refuses("and once more", STATE, () -> k.p.type('a'));
        Due.is("the text has", 40, k.p.count(3));
        Due.is("clear()", 40, k.p.clear());
        Due.is("type again", 1, k.p.type('a'));
    }

    /** "characters 0 .. 255", "IllegalArgumentException when it is above 255". */
    private static void firstAndLastCharacter() {
        Kit k = new Kit();
        Due.is("type 0", 1, k.p.type((char) 0));
        Due.is("type 255", 2, k.p.type((char) 255));
        Due.refuses("type 256", ARGUMENT, () -> k.p.type((char) 256));
        Due.refuses("type 65535", ARGUMENT, () -> k.p.type(Character.MAX_VALUE));
        Due.is("the text has", 2, k.p.count(3));
        k.staged(k.then(k.sign(0), k.sign(255), 2));
        Due.is("0 and 255", 255, k.p.parse(0));
    }

    private static void everyCharacterIsKept() {
        Kit k = new Kit();
        k.staged(k.range(0, 255));
        for (int c = 0; c <= 255; c += 5) {
            k.succeeds(Character.toString(c), c, 1, 1, -1);
        }
    }

    /** "with places from 0 on": each of 40 places holds what was typed there. */
    private static void placesFromZeroOn() {
        StringBuilder text = new StringBuilder();
        int due = 1;
        for (int i = 0; i < 40; i++) {
            text.append((char) (100 + 3 * i));
        }
        for (int i = 39; i >= 0; i--) {
            due = text.charAt(i) + 257 * due;
        }
        Kit k = new Kit();
        k.reader(0);
        Due.is("stage()", 0, k.p.stage());
        k.succeeds(text.toString(), due, 40, 41, 40);
        k.succeeds("", 1, 0, 1, 0);
        k.succeeds("b", 'b' + 257, 1, 2, 1);
    }

    /** A text of 40 and a character above 255: of both exceptions, the one that the promise names first. */
    private static void argumentsCountBeforeFullness() {
        Twins.refused("full: type 256", ARGUMENT, States::full, p -> p.type((char) 256));
        Twins.refused("full: type 255", STATE, States::full, p -> p.type((char) 255));
    }

    /** "The text is empty then. How many characters it had." */
    private static void clearOfNoneOneAndForty() {
        for (int had : new int[] {0, 1, 39, 40}) {
            Kit k = new Kit();
            k.staged(k.not(k.range(0, 255)));
            k.text(FORTY.substring(0, had));
            Due.is("clear() of " + had, had, k.p.clear());
            Due.is("characters then", 0, k.p.count(3));
            Due.is("nothing is at place 0 then", 0, k.p.parse(0));
            Due.is("clear() again", 0, k.p.clear());
            Due.is("the code stays", 1, k.p.count(2));
        }
    }

    /** "A look .. is a LOOK, also behind the text's end, where no character is (such a look fails)". */
    private static void lookBehindTheEnd() {
        Kit sign = new Kit();
        sign.staged(sign.sign(0));
        sign.fails("", 0, 1, 0);
        Kit range = new Kit();
        range.staged(range.range(0, 255));
        range.fails("", 0, 1, 0);
        Kit first = new Kit();
        first.staged(first.then(first.many(first.range(0, 255), 0), first.sign('a'), 1));
        first.fails(FORTY.substring(1), 39, 41, 39);
        first.fails(FORTY, 40, 42, 40);
        Kit again = new Kit();
        again.staged(again.times(again.not(again.range(0, 255)), 5));
        again.succeeds("", 0, 0, 5, 0);
    }

    private static void lookBehindTheEndAfterClear() {
        Kit k = new Kit();
        k.staged(k.many(k.range(0, 255), 1));
        k.succeeds(FORTY, 'a', 40, 41, 40);
        k.succeeds("", 0, 0, 1, 0);
        k.succeeds("b", 'b', 1, 2, 1);
    }

    /** "FAR is the greatest place at which a look failed", not the last one, nor where the parse fails. */
    private static void farIsTheGreatest() {
        Kit k = new Kit();
        int forty = k.attempt(k.then(k.many(k.sign('a'), 0), k.sign('b'), 1));
        k.staged(k.or(forty, k.sign('c')));
        k.fails(FORTY, 0, 43, 40);
        k.fails("", 0, 3, 0);
        k.fails("a", 0, 4, 1);
        Kit inside = new Kit();
        inside.staged(inside.not(inside.pair('a', 'b')));
        inside.succeeds("a", 0, 0, 2, 1);
        Kit behind = new Kit();
        behind.staged(behind.then(behind.many(behind.sign('a'), 0), behind.pair('b', 'c'), 1));
        behind.succeeds("abc", 'c', 3, 4, 1);
    }

    /** "far (-1 when no look failed)": what fails without a look doesn't count. */
    private static void farWhereNoLookFailed() {
        Kit k = new Kit();
        k.staged(k.then(k.sign('a'), k.none(), 0)).fails("a", 1, 1, -1);
        k.staged(k.not(k.sign('a'))).fails("a", 0, 1, -1);
        k.staged(k.look(k.sign('a'))).succeeds("a", 'a', 0, 1, -1);
        k.staged(k.none()).fails("", 0, 0, -1);
        k.staged(k.sign('a')).fails("", 0, 1, 0);
        k.staged(k.kept(0)).succeeds("", 0, 0, 0, -1);
    }

    /** "(The text stays.)": a parse begins at place 0 again. */
    private static void theTextStays() {
        Kit k = new Kit();
        k.staged(k.many(k.range('0', '9'), 5));
        k.text("12");
        Due.is("parse", 12, k.p.parse(0));
        Due.is("parse again", 12, k.p.parse(0));
        Due.is("type behind it", 3, k.p.type('3'));
        Due.is("parse of more", 123, k.p.parse(0));
        Due.is("the text has", 3, k.p.count(3));
    }
}
