/** Long rows of calls, made by a fixed rule of counting, answered by the program as by the model; promises 1 to 13. */
public final class ModelTest {
    private static final int ROWS = 6000;
    private static final int CALLS = 512;
    private static final String SIGNS = "aab+-*0";

    private long seed;
    private int calls;
    private boolean deep;
    private StagedParsers program;
    private Model model;
    private static final int[] seenStages = new int[4];
    private static final int[] seenParses = new int[3];

    public static void main(String[] args) {
        for (int row = 1; row <= ROWS; row++) {
            new ModelTest().row(row);
        }
        for (int fault = 0; fault < 4; fault++) {
            Due.is("stage() answered " + fault + " often enough", true, seenStages[fault] > 1000);
        }
        for (int end = 0; end < 3; end++) {
            Due.is("parses ended in way " + end + " often enough", true, seenParses[end] > 300);
        }
        System.out.println("stages " + java.util.Arrays.toString(seenStages)
            + ", parses that succeeded, failed, were tired " + java.util.Arrays.toString(seenParses));
        Due.end("ModelTest");
    }

    /** The next number 0 .. below - 1. */
    private int pick(int below) {
        seed = seed * 6364136223846793005L + 1442695040888963407L;
        return (int) ((seed >>> 33) % below);
    }

    private void row(int number) {
        seed = number * 7919L;
        pick(2);
        calls = 0;
        program = new StagedParsers();
        model = new Model();
        boolean wild = number % 4 == 0;
        deep = number % 4 == 1;
        if (deep) {
            roundsOverRules();
        }
        int first = 4 + pick(24);
        for (int i = 0; i < first; i++) {
            oneNode(wild);
        }
        while (calls < CALLS) {
            oneRound(wild);
        }
    }

    /** Nodes that take a character and run a rule again, tried twice over, so that parses grow tired. */
    private void roundsOverRules() {
        made(1, 'a', 0, 0);
        for (int r = 0; r < 3; r++) {
            int call = made(11, r, 0, 0);
            int row = made(4, 0, call, 2);
            int pair = made(4, row, pick(2) == 0 ? 0 : call, 1);
            int tried = made(6, pair, 0, 0);
            int other = pick(2) == 0 ? made(7, row, 0, 0) : made(12, row, r, 0);
            int either = made(5, tried, pick(2) == 0 ? row : other, 0);
            int body = made(5, either, pick(2) == 0 ? 0 : made(0, 5, 0, 0), 0);
            int rule = r;
            both("rule(" + r + ", " + body + ")", () -> program.rule(rule, body), () -> model.rule(rule, body));
        }
        stage();
        for (int i = 0; i < 4; i++) {
            oneText(false);
            parse(pick(3));
        }
    }

    private int made(int kind, int a, int b, int c) {
        String what = "node(" + kind + ", " + a + ", " + b + ", " + c + ")";
        both(what, () -> program.node(kind, a, b, c), () -> model.node(kind, a, b, c));
        return model.count(0) - 1;
    }

    private void oneRound(boolean wild) {
        int more = pick(4);
        for (int i = 0; i < more; i++) {
            oneNode(wild);
        }
        for (int r = 0; r < 3; r++) {
            oneRule(wild);
        }
        stage();
        study(wild);
        int texts = 1 + pick(3);
        for (int i = 0; i < texts; i++) {
            oneText(wild);
            parse(wild && pick(3) == 0 ? pick(9) - 1 : pick(3));
        }
        for (int what = -1; what < 5 && wild; what++) {
            int w = what;
            both("count(" + w + ")", () -> program.count(w), () -> model.count(w));
        }
    }

    private String both(String what, Due.Call ofProgram, Due.Call ofModel) {
        if (calls >= CALLS) {
            return "";
        }
        calls++;
        String want = Due.told(ofModel);
        Due.same(what, want, Due.told(ofProgram));
        return want;
    }

    private void oneNode(boolean wild) {
        int kind = wild && pick(20) == 0 ? pick(20) - 3 : pick(14);
        int a = argument(kind, 0, wild);
        int b = argument(kind, 1, wild);
        int c = wild && pick(30) == 0 ? pick(12) - 2 : pick(8);
        made(kind, a, b, c);
    }

    private int argument(int kind, int which, boolean wild) {
        if (wild && pick(25) == 0) {
            return pick(300) - 20;
        }
        switch (kind) {
            case 0:
                return SIGNS.charAt(pick(SIGNS.length())) - pick(2) * 40;
            case 1:
                return SIGNS.charAt(pick(SIGNS.length()));
            case 2:
                return which == 0 ? '*' + pick(60) : 'a' + pick(2);
            case 11:
                return pick(3);
            case 13:
                return pick(4);
            default:
        }
        if (which == 1 && kind == 9) {
            return pick(8);
        }
        return which == 1 && kind == 12 ? pick(4) : pick(Math.max(1, model.count(0)));
    }

    private void oneRule(boolean wild) {
        int r = wild ? pick(8) - 1 : pick(3);
        int size = Math.max(1, model.count(0));
        int n = wild && pick(20) == 0 ? pick(90) - 5 : Math.max(pick(size), pick(size));
        both("rule(" + r + ", " + n + ")", () -> program.rule(r, n), () -> model.rule(r, n));
    }

    private void stage() {
        String told = both("stage()", () -> program.stage(), () -> model.stage());
        if (!told.isEmpty()) {
            seenStages[Integer.parseInt(told)]++;
        }
    }

    private void study(boolean wild) {
        int n = pick(Math.max(1, model.count(0))) + (wild ? pick(7) - 3 : 0);
        int c = wild && pick(5) == 0 ? pick(300) - 20 : SIGNS.charAt(pick(SIGNS.length()));
        int r = wild ? pick(8) - 1 : pick(3);
        both("empty(" + n + ")", () -> program.empty(n) ? 1 : 0, () -> model.empty(n) ? 1 : 0);
        String begins = "begins(" + n + ", " + c + ")";
        both(begins, () -> program.begins(n, c) ? 1 : 0, () -> model.begins(n, c) ? 1 : 0);
        both("leads(" + r + ")", () -> program.leads(r), () -> model.leads(r));
    }

    private void oneText(boolean wild) {
        if (pick(3) != 0) {
            both("clear()", () -> program.clear(), () -> model.clear());
        }
        int length = deep && pick(3) == 0 || pick(5) == 0 ? pick(44) : pick(6);
        int few = deep ? 2 : 1 + pick(SIGNS.length());
        for (int i = 0; i < length; i++) {
            char c = wild && pick(20) == 0 ? (char) pick(400) : SIGNS.charAt(pick(few));
            both("type(" + (int) c + ")", () -> program.type(c), () -> model.type(c));
        }
    }

    private void parse(int r) {
        String told = both("parse(" + r + ")", () -> program.parse(r), () -> model.parse(r));
        if (told.startsWith("throws.NoSuch")) {
            seenParses[1]++;
        } else if (told.startsWith("throws.Unsupported")) {
            seenParses[2]++;
        } else if (!told.startsWith("throws.") && !told.isEmpty()) {
            seenParses[0]++;
        }
        for (int what = -1; what < 5; what++) {
            int w = what;
            both("latest(" + w + ")", () -> program.latest(w), () -> model.latest(w));
            both("register(" + w + ")", () -> program.register(w), () -> model.register(w));
        }
    }
}
