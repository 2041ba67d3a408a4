/** A parser object with names for the kinds of nodes, to write grammars shortly. */
final class Kit {
    final StagedParsers p = new StagedParsers();

    int pure(int a) {
        return p.node(0, a, -7, -7);
    }

    int sign(int a) {
        return p.node(1, a, -7, -7);
    }

    int range(int a, int b) {
        return p.node(2, a, b, -7);
    }

    int none() {
        return p.node(3, -7, -7, -7);
    }

    int then(int x, int y, int way) {
        return p.node(4, x, y, way);
    }

    int or(int x, int y) {
        return p.node(5, x, y, -7);
    }

    int attempt(int x) {
        return p.node(6, x, -7, -7);
    }

    int look(int x) {
        return p.node(7, x, -7, -7);
    }

    int not(int x) {
        return p.node(8, x, -7, -7);
    }

    int many(int x, int way) {
        return p.node(9, x, way, -7);
    }

    int chain(int x, int y) {
        return p.node(10, x, y, -7);
    }

    int ruleNode(int r) {
        return p.node(11, r, -7, -7);
    }

    int keep(int x, int register) {
        return p.node(12, x, register, -7);
    }

    int kept(int register) {
        return p.node(13, register, -7, -7);
    }

    /** Both signs one after the other; the answer is the second. */
    int pair(int first, int second) {
        return then(sign(first), sign(second), 1);
    }

    /** A node that runs x so many times, one after the other. */
    int times(int x, int count) {
        int row = -1;
        int power = x;
        for (int left = count; left > 0; left >>= 1) {
            if ((left & 1) == 1) {
                row = row < 0 ? power : then(power, row, 1);
            }
            if (left > 1) {
                power = then(power, power, 1);
            }
        }
        return row;
    }

    /** A node x and so many TRYs over it. */
    int raised(int x, int by) {
        int top = x;
        for (int i = 0; i < by; i++) {
            top = attempt(top);
        }
        return top;
    }

    /**
     * Gives rule r a body whose answer is another one for each text of up to 40 characters that differs in one
     * place: c + 257 * the rest's answer. It takes two characters in each body, as 40 bodies would be too deep.
     */
    void reader(int r) {
        int any = range(0, 255);
        int factor = pure(257);
        int end = pure(1);
        int second = or(then(any, then(factor, ruleNode(r), 4), 2), end);
        p.rule(r, or(then(any, then(factor, second, 4), 2), end));
    }

    void text(String text) {
        p.clear();
        for (int i = 0; i < text.length(); i++) {
            p.type(text.charAt(i));
        }
    }

    /** Makes a node rule 0's body, makes the code, and checks that it was made. */
    Kit staged(int body) {
        p.rule(0, body);
        Due.is("stage() of a well made grammar", 0, p.stage());
        return this;
    }

    /** Parses with rule 0 and checks answer, place, looks and far. */
    void succeeds(String text, int answer, int place, int looks, int far) {
        text(text);
        String what = "parse(0) of '" + text + "'";
        Due.same(what, Integer.toString(answer), Due.told(() -> p.parse(0)));
        latest(what, place, looks, far, 1);
    }

    /** Parses with rule 0 and checks that it fails, and place, looks and far. */
    void fails(String text, int place, int looks, int far) {
        text(text);
        String what = "parse(0) of '" + text + "'";
        Due.refuses(what, java.util.NoSuchElementException.class, () -> p.parse(0));
        latest(what, place, looks, far, 0);
    }

    /** Parses with rule 0 and checks that it is tired, and looks and far. */
    void tires(String text, int looks, int far) {
        text(text);
        String what = "parse(0) of '" + text + "'";
        Due.refuses(what, UnsupportedOperationException.class, () -> p.parse(0));
        latest(what, -1, looks, far, 0);
    }

    void latest(String what, int place, int looks, int far, int succeeded) {
        Due.is(what + ", latest(0)", place, p.latest(0));
        Due.is(what + ", latest(1)", looks, p.latest(1));
        Due.is(what + ", latest(2)", far, p.latest(2));
        Due.is(what + ", latest(3)", succeeded, p.latest(3));
    }
}
