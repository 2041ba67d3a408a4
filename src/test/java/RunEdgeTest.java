/** The edges of 'Terms' for a node that is run: where it succeeds or fails, and with what answer. */
public final class RunEdgeTest {
    private static final int LEAST = Integer.MIN_VALUE;
    private static final int MOST = Integer.MAX_VALUE;
    private static final String FORTY = States.FORTY;

    public static void main(String[] args) {
        pureAndNoneTakeNothing();
        orGoesOnOnlyWhereNothingWasTaken();
        orGoesOnWhereNothingWasTakenInTheEnd();
        orBehindSomething();
        tryFailsWhereItBegan();
        lookGoesBackOnlyWhenItSucceeds();
        notIsTurnedRoundAnywhere();
        manyNoneOneAndForty();
        manyFailsBehindItsBeginning();
        chainWithoutAnyY();
        chainFailsBehindItsBeginning();
        chainByAnswersBesideTheSigns();
        keepWhateverFailsLater();
        keptBeforeAnythingWasKept();
        joinedAtTheEnds();
        thenWraps();
        manyWraps();
        chainWraps();
        Due.end("RunEdgeTest");
    }

    /** Something that is run at place 40, behind a text of 40 a. */
    private static Kit behindForty(Kit k, int x) {
        return k.staged(k.then(k.many(k.sign('a'), 0), x, 1));
    }

    /** "PURE a: succeeds where it is", "NONE: fails where it is". */
    private static void pureAndNoneTakeNothing() {
        for (int answer : new int[] {LEAST, -1, 0, MOST}) {
            Kit k = new Kit();
            k.staged(k.pure(answer));
            k.succeeds("", answer, 0, 0, -1);
            k.succeeds("a", answer, 0, 0, -1);
            behindForty(k, 0).succeeds(FORTY, answer, 40, 41, 40);
        }
        Kit none = new Kit();
        none.staged(none.none());
        none.fails("", 0, 0, -1);
        none.fails("a", 0, 0, -1);
        behindForty(none, 0).fails(FORTY, 40, 41, 40);
    }

    /** "OR x, y: x; if it fails at the place where it began, y there". */
    private static void orGoesOnOnlyWhereNothingWasTaken() {
        Kit k = new Kit();
        k.staged(k.or(k.pair('a', 'b'), k.pure(9)));
        k.succeeds("", 9, 0, 1, 0);
        k.succeeds("b", 9, 0, 1, 0);
        k.fails("a", 1, 2, 1);
        k.fails("aa", 1, 2, 1);
        k.succeeds("ab", 'b', 2, 2, -1);
        Kit both = new Kit();
        both.staged(both.or(both.sign('a'), both.pair('b', 'c')));
        both.fails("c", 0, 2, 0);
        both.fails("bb", 1, 3, 1);
    }

    private static void orGoesOnWhereNothingWasTakenInTheEnd() {
        Kit looked = new Kit();
        looked.staged(looked.or(looked.then(looked.look(looked.sign('a')), looked.none(), 0), looked.pure(9)));
        looked.succeeds("a", 9, 0, 1, -1);
        Kit tried = new Kit();
        int all = tried.then(tried.many(tried.sign('a'), 0), tried.none(), 0);
        tried.staged(tried.or(tried.attempt(all), tried.pure(9)));
        tried.succeeds(FORTY, 9, 0, 41, 40);
        Kit taken = new Kit();
        taken.staged(taken.or(taken.then(taken.many(taken.sign('a'), 0), taken.none(), 0), taken.pure(9)));
        taken.succeeds("", 9, 0, 1, 0);
        taken.fails("a", 1, 2, 1);
        taken.fails(FORTY, 40, 41, 40);
    }

    private static void orBehindSomething() {
        Kit k = new Kit();
        behindForty(k, k.or(k.sign('b'), k.pure(9))).succeeds(FORTY, 9, 40, 42, 40);
        Kit inside = new Kit();
        int inner = inside.or(inside.sign('b'), inside.none());
        inside.staged(inside.or(inside.then(inside.sign('a'), inner, 0), inside.pure(9)));
        inside.fails("ac", 1, 2, 1);
    }

    /** "TRY x: x; if it fails, it fails where it began". */
    private static void tryFailsWhereItBegan() {
        Kit k = new Kit();
        int all = k.then(k.many(k.sign('a'), 0), k.sign('b'), 1);
        k.staged(k.attempt(all));
        k.fails("", 0, 1 + 1, 0);
        k.fails(FORTY, 0, 42, 40);
        k.succeeds("ab", 'b', 2, 3, 1);
        Kit behind = new Kit();
        int rest = behind.attempt(behind.pair('b', 'c'));
        behind.staged(behind.then(behind.sign('a'), rest, 1));
        behind.fails("abb", 1, 3, 2);
        behind.fails("a", 1, 2, 1);
        Kit twice = new Kit();
        twice.staged(twice.attempt(twice.then(twice.sign('a'), twice.attempt(twice.pair('b', 'c')), 1)));
        twice.fails("abb", 0, 3, 2);
    }

    /** "LOOK x: x; if it succeeds, it succeeds where it began, with its answer". */
    private static void lookGoesBackOnlyWhenItSucceeds() {
        Kit k = new Kit();
        k.staged(k.look(k.many(k.sign('a'), 2)));
        k.succeeds(FORTY, 40 * 'a', 0, 41, 40);
        k.succeeds("", 0, 0, 1, 0);
        Kit fails = new Kit();
        fails.staged(fails.or(fails.look(fails.pair('a', 'b')), fails.pure(9)));
        fails.fails("aa", 1, 2, 1);
        fails.succeeds("b", 9, 0, 1, 0);
        fails.succeeds("ab", 'b', 0, 2, -1);
    }

    /** "NOT x: x; if it succeeds, fails where it began; if it fails (anywhere), succeeds where it began, answer 0". */
    private static void notIsTurnedRoundAnywhere() {
        Kit k = new Kit();
        int all = k.then(k.many(k.sign('a'), 0), k.sign('b'), 1);
        k.staged(k.not(all));
        k.succeeds(FORTY, 0, 0, 42, 40);
        k.succeeds("", 0, 0, 2, 0);
        k.fails("b", 0, 2, 0);
        k.fails(FORTY.substring(1) + "b", 0, 41, 39);
        Kit end = new Kit();
        behindForty(end, end.not(end.range(0, 255))).succeeds(FORTY, 0, 40, 42, 40);
        end.fails(FORTY.substring(1) + "b", 39, 41, 39);
        Kit pure = new Kit();
        pure.staged(pure.or(pure.not(pure.pure(5)), pure.pure(9))).succeeds("", 9, 0, 0, -1);
        pure.staged(pure.not(pure.none())).succeeds("", 0, 0, 0, -1);
    }

    /** "MANY x, c: x again and again .. until x fails; if that is at the place where this x began, succeeds there". */
    private static void manyNoneOneAndForty() {
        Kit k = new Kit();
        k.staged(k.many(k.sign('a'), 2));
        k.succeeds("", 0, 0, 1, 0);
        k.succeeds("b", 0, 0, 1, 0);
        k.succeeds("a", 'a', 1, 2, 1);
        k.succeeds("ab", 'a', 1, 2, 1);
        k.succeeds(FORTY, 40 * 'a', 40, 41, 40);
        Kit none = new Kit();
        none.staged(none.many(none.none(), 2)).succeeds("a", 0, 0, 0, -1);
    }

    private static void manyFailsBehindItsBeginning() {
        Kit k = new Kit();
        k.staged(k.many(k.pair('a', 'b'), 1));
        k.succeeds("ab", 'b', 2, 3, 2);
        k.fails("a", 1, 2, 1);
        k.fails("aba", 3, 4, 3);
        k.fails(FORTY.substring(2).replace("aa", "ab") + "aa", 39, 40, 39);
        Kit tried = new Kit();
        tried.staged(tried.or(tried.many(tried.attempt(tried.pair('a', 'b')), 1), tried.none()));
        tried.succeeds("a", 0, 0, 2, 1);
        tried.succeeds("aba", 'b', 2, 4, 3);
    }

    /** "CHAIN x, y: x, then y and x next to one another again and again, until one of both fails". */
    private static void chainWithoutAnyY() {
        Kit k = new Kit();
        k.staged(k.chain(k.pair('a', 'b'), k.sign('+')));
        k.fails("", 0, 1, 0);
        k.fails("a", 1, 2, 1);
        k.succeeds("ab", 'b', 2, 3, 2);
        k.succeeds("ab+ab", 2 * 'b', 5, 6, 5);
        Kit twenty = new Kit();
        twenty.staged(twenty.chain(twenty.sign('a'), twenty.sign('a')));
        twenty.succeeds(FORTY.substring(1), 'a', 39, 40, 39);
        twenty.fails(FORTY, 40, 41, 40);
    }

    /** "if that is at the place where this y began, succeeds there": also when it is the x that fails there. */
    private static void chainFailsBehindItsBeginning() {
        Kit k = new Kit();
        k.staged(k.chain(k.sign('a'), k.pair('+', '-')));
        k.succeeds("a-", 'a', 1, 2, 1);
        k.fails("a+", 2, 3, 2);
        k.fails("a+-", 3, 4, 3);
        Kit tried = new Kit();
        tried.staged(tried.chain(tried.attempt(tried.pair('a', 'b')), tried.sign('+')));
        tried.fails("a", 0, 2, 1);
        tried.fails("ab+a", 3, 5, 4);
        Kit emptyY = new Kit();
        emptyY.staged(emptyY.chain(emptyY.pair('a', 'b'), emptyY.many(emptyY.sign('+'), 1)));
        emptyY.succeeds("abab", 'b', 4, 7, 4);
        emptyY.succeeds("ab+ab", 2 * 'b', 5, 8, 5);
        emptyY.fails("aba", 3, 5, 3);
        emptyY.fails("ab+", 3, 5, 3);
        Kit emptyX = new Kit();
        emptyX.staged(emptyX.chain(emptyX.many(emptyX.sign('a'), 2), emptyX.sign('+')));
        emptyX.succeeds("", 0, 0, 2, 0);
        emptyX.succeeds("+", 0, 1, 4, 1);
        emptyX.succeeds("a+a+", 2 * 'a', 4, 8, 4);
    }

    private static int chained(int v, int between, int w) {
        Kit k = new Kit();
        k.staged(k.chain(k.then(k.sign('x'), k.or(k.then(k.sign('1'), k.pure(v), 1), k.pure(w)), 1), k.pure(between)));
        k.text("x1x");
        return k.p.parse(0);
    }

    /** "43 as their sum (joined by 2), 45 as the difference (3), 42 as the product (4), anything else as the first". */
    private static void chainByAnswersBesideTheSigns() {
        Due.is("by 43", 17, chained(12, 43, 5));
        Due.is("by 45", 7, chained(12, 45, 5));
        Due.is("by 42", 60, chained(12, 42, 5));
        int[] others = {0, 1, 2, 3, 4, 41, 44, 46, -42, -43, -45, 43 + 256, 45 + 65536, 42 - 65536, LEAST, MOST};
        for (int between : others) {
            Due.is("by " + between, 12, chained(12, between, 5));
        }
    }

    /** "KEEP x, a: x; its answer is in register a (0 .. 3) from then on, whatever fails later". */
    private static void keepWhateverFailsLater() {
        Kit k = new Kit();
        int kept = k.keep(k.sign('a'), 0);
        int fails = k.then(kept, k.none(), 0);
        k.staged(fails).fails("a", 1, 1, -1);
        Due.is("kept in a parse that fails", 'a', k.p.register(0));
        k.staged(k.or(k.attempt(fails), k.kept(0))).succeeds("a", 'a', 0, 1, -1);
        k.staged(k.then(k.not(fails), k.kept(0), 1)).succeeds("a", 'a', 0, 1, -1);
        k.staged(k.then(k.look(kept), k.kept(0), 1)).succeeds("a", 'a', 0, 1, -1);
        k.staged(k.or(k.not(kept), k.kept(0))).succeeds("a", 'a', 0, 1, -1);
        k.staged(k.then(k.many(k.attempt(k.then(kept, k.sign('b'), 0)), 0), k.kept(0), 1));
        k.succeeds("aba", 'a', 2, 4, 3);
        k.staged(k.keep(k.none(), 0)).fails("a", 0, 0, -1);
        Due.is("not kept where x fails", 0, k.p.register(0));
        Kit over = new Kit();
        over.staged(over.then(over.keep(over.pure(5), 3), over.keep(over.sign('a'), 3), 0)).fails("", 0, 1, 0);
        Due.is("what was kept before stays where x fails", 5, over.p.register(3));
    }

    /** "the registers are 0 at first", in each parse. */
    private static void keptBeforeAnythingWasKept() {
        for (int i = 0; i <= 3; i++) {
            Kit k = new Kit();
            int none = k.kept(i);
            k.staged(k.then(none, k.keep(k.pure(LEAST), i), 0));
            k.succeeds("", 0, 0, 0, -1);
            Due.is("register(" + i + ")", LEAST, k.p.register(i));
            k.succeeds("", 0, 0, 0, -1);
        }
    }

    private static void join(int way, int v, int w, int due) {
        Kit k = new Kit();
        k.staged(k.then(k.pure(v), k.pure(w), way));
        Due.is(v + " joined by " + way + " with " + w, due, k.p.parse(0));
    }

    /** "JOINED by c of v and w: 0 v, 1 w, 2 v + w, 3 v - w, 4 v * w, 5 10 * v + w - 48, 6 the greater one, 7 ..". */
    private static void joinedAtTheEnds() {
        int[] ends = {LEAST, -1, 0, 1, MOST};
        for (int v : ends) {
            for (int w : ends) {
                join(0, v, w, v);
                join(1, v, w, w);
                join(6, v, w, v > w ? v : w);
                join(7, v, w, v == w ? 1 : 0);
            }
        }
        join(5, 0, 48, 0);
        join(5, 0, 47, -1);
        join(5, 0, 57, 9);
        join(5, -1, 48, -10);
    }

    /** "Sums and products wrap": just not yet, and just then. */
    private static void thenWraps() {
        join(2, MOST - 1, 1, MOST);
        join(2, MOST, 1, LEAST);
        join(2, LEAST + 1, -1, LEAST);
        join(2, LEAST, -1, MOST);
        join(2, LEAST, LEAST, 0);
        join(3, LEAST + 1, 1, LEAST);
        join(3, LEAST, 1, MOST);
        join(3, 0, MOST, LEAST + 1);
        join(3, 0, LEAST, LEAST);
        join(4, 65536, 32767, 2147418112);
        join(4, 65536, 32768, LEAST);
        join(4, 65536, 65536, 0);
        join(4, MOST, MOST, 1);
        join(4, LEAST, -1, LEAST);
        join(5, 214748364, '7', MOST);
        join(5, 214748364, '8', LEAST);
        join(5, -214748364, 40, LEAST);
        join(5, -214748364, 39, MOST);
        join(5, LEAST, 48, 0);
        join(5, 0, LEAST, MOST - 47);
    }

    private static void manyWraps() {
        Kit digits = new Kit();
        digits.staged(digits.many(digits.range('0', '9'), 5));
        digits.succeeds("2147483647", MOST, 10, 11, 10);
        digits.succeeds("2147483648", LEAST, 10, 11, 10);
        digits.succeeds("4294967296", 0, 10, 11, 10);
        int half = 1 << 30;
        Kit sum = new Kit();
        sum.staged(sum.many(sum.then(sum.sign('a'), sum.pure(half), 1), 2));
        sum.succeeds("a", half, 1, 2, 1);
        sum.succeeds("aa", LEAST, 2, 3, 2);
        sum.succeeds("aaaa", 0, 4, 5, 4);
        Kit difference = new Kit();
        difference.staged(difference.many(difference.then(difference.sign('a'), difference.pure(half), 1), 3));
        difference.succeeds("aa", LEAST, 2, 3, 2);
        difference.succeeds("aaa", half, 3, 4, 3);
    }

    private static void chainWraps() {
        Due.is("sum, just not yet", MOST, chained(MOST - 1, 43, 1));
        Due.is("sum", LEAST, chained(MOST, 43, 1));
        Due.is("difference, just not yet", LEAST, chained(LEAST + 1, 45, 1));
        Due.is("difference", MOST, chained(LEAST, 45, 1));
        Due.is("product, just not yet", 2147418112, chained(65536, 42, 32767));
        Due.is("product", LEAST, chained(65536, 42, 32768));
        Due.is("product of the least", LEAST, chained(LEAST, 42, -1));
    }
}
