import java.util.Arrays;
import java.util.NoSuchElementException;

/** Parsers put together of smaller ones, looked at, turned into code for a small machine, and run over a text. */
public final class StagedParsers {
    private static final int NODES_MOST = 80;
    private static final int HEIGHT_MOST = 8;
    private static final int RULES = 6;
    private static final int REGISTERS = 4;
    private static final int TEXT_MOST = 40;
    private static final int SIGN_MOST = 255;
    private static final int LOOKS_MOST = 1500;
    private static final int DEPTH_MOST = 40;
    private static final int BODIES_MOST = 300;
    private static final int NOTHING = -1;

    // The kinds of nodes, numbered as callers give them.
    private static final int PURE = 0;
    private static final int SIGN = 1;
    private static final int RANGE = 2;
    private static final int NONE = 3;
    private static final int THEN = 4;
    private static final int OR = 5;
    private static final int TRY = 6;
    private static final int LOOK = 7;
    private static final int NOT = 8;
    private static final int MANY = 9;
    private static final int CHAIN = 10;
    private static final int RULE = 11;
    private static final int KEEP = 12;
    private static final int KEPT = 13;

    // How many parts a node of each kind is made of: a is the first, b the second.
    private static final int[] PARTS = {0, 0, 0, 0, 2, 2, 1, 1, 1, 1, 2, 0, 1, 0};

    // The ways of joining two answers.
    private static final int WAYS = 8;
    private static final int FIRST = 0;
    private static final int SECOND = 1;
    private static final int SUM = 2;
    private static final int DIFFERENCE = 3;
    private static final int PRODUCT = 4;
    private static final int DIGIT = 5;
    private static final int GREATER = 6;
    private static final int ALIKE = 7;

    // What keeps the rules from being well made.
    private static final int WELL_MADE = 0;
    private static final int RULE_WITHOUT_BODY = 1;
    private static final int ENDLESS_LOOP = 2;
    private static final int LEADS_TO_ITSELF = 3;

    // The instructions of the machine.
    private static final int END = 0;
    private static final int GIVE = 1;
    private static final int TAKE = 2;
    private static final int REFUSE = 3;
    private static final int CALL_PART = 4;
    private static final int CALL_BODY = 5;
    private static final int RETURN = 6;
    private static final int JOIN = 7;
    private static final int LINK = 8;
    private static final int GUARD = 9;
    private static final int UNGUARD = 10;
    private static final int REWIND = 11;
    private static final int AGAIN = 12;
    private static final int STORE = 13;
    private static final int FETCH = 14;

    // No kind of node has more than seven instructions, and END stands before them all.
    private static final int CODE_MOST = 1 + 7 * NODES_MOST;

    // What a frame of the machine does when a failure comes by.
    private static final int OF_PART = 0;
    private static final int OF_BODY = 1;
    private static final int IF_NOTHING_TAKEN = 2;
    private static final int BACK_TO_START = 3;
    private static final int LET_THROUGH = 4;
    private static final int TURN_ROUND = 5;

    // Each node of a body in work holds at most two frames and two answers.
    private static final int FRAMES_MOST = 2 * HEIGHT_MOST * DEPTH_MOST;
    private static final int ANSWERS_MOST = 2 * HEIGHT_MOST * DEPTH_MOST + 2;

    // Every loop's turn makes a look, so 1500 looks and 300 bodies of 255 nodes end well below this.
    private static final int STEPS_MOST = 1 << 24;

    // How a run of the machine stands.
    private static final int RUNNING = 0;
    private static final int SUCCEEDED = 1;
    private static final int FAILED = 2;
    private static final int TIRED = 3;

    private final Grammar grammar;
    private final Study study;
    private final Code code;
    private final Text text;
    private final Machine machine;
    private boolean staged;

    public StagedParsers() {
        grammar = new Grammar();
        study = new Study(grammar);
        code = new Code();
        text = new Text();
        machine = new Machine(code, text);
        staged = false;
    }

    public int node(int kind, int a, int b, int c) throws IllegalArgumentException, IllegalStateException {
        if (!grammar.allows(kind, a, b, c)) {
            throw new IllegalArgumentException("no such node can be made");
        }
        if (grammar.isFull()) {
            throw new IllegalStateException("there are 80 nodes");
        }
        return grammar.add(kind, a, b, c);
    }

    public int rule(int r, int node) throws IllegalArgumentException {
        if (!grammar.isRule(r) || !grammar.isNode(node)) {
            throw new IllegalArgumentException("no such rule or node");
        }
        grammar.setBody(r, node);
        staged = false;
        return grammar.bodies();
    }

    public int stage() {
        int fault = study.fault();
        staged = fault == WELL_MADE;
        if (staged) {
            code.write(grammar, study);
        }
        return fault;
    }

    public boolean empty(int node) throws IllegalArgumentException {
        if (!grammar.isNode(node)) {
            throw new IllegalArgumentException("no such node");
        }
        return study.isEmpty(node);
    }

    public boolean begins(int node, int c) throws IllegalArgumentException {
        if (!grammar.isNode(node) || !isSign(c)) {
            throw new IllegalArgumentException("no such node or character");
        }
        return study.canBegin(node, c);
    }

    public int leads(int r) throws IllegalArgumentException {
        if (!grammar.isRule(r)) {
            throw new IllegalArgumentException("no such rule");
        }
        return study.ledTo(r);
    }

    public int type(char c) throws IllegalArgumentException, IllegalStateException {
        if (!isSign(c)) {
            throw new IllegalArgumentException("no such character");
        }
        if (text.isFull()) {
            throw new IllegalStateException("the text has 40 characters");
        }
        text.append(c);
        return text.size();
    }

    public int clear() {
        int size = text.size();
        text.erase();
        return size;
    }

    public int parse(int r)
            throws IllegalStateException, IllegalArgumentException, UnsupportedOperationException, NoSuchElementException {
        if (!staged) {
            throw new IllegalStateException("there is no code");
        }
        if (!grammar.hasBody(r)) {
            throw new IllegalArgumentException("no such rule, or it has no body");
        }
        machine.run(r);
        if (machine.isTired()) {
            throw new UnsupportedOperationException("the parse is tired");
        }
        if (!machine.hasSucceeded()) {
            throw new NoSuchElementException("the parse fails");
        }
        return machine.answer();
    }

    public int latest(int what) {
        if (what < 0 || what > 3) {
            return -2;
        }
        if (!machine.hasRun()) {
            return 0;
        }
        switch (what) {
            case 0:
                return machine.isTired() ? NOTHING : machine.place();
            case 1:
                return machine.looks();
            case 2:
                return machine.far();
            default:
                return machine.hasSucceeded() ? 1 : 0;
        }
    }

    public int register(int i) {
        return isRegister(i) ? machine.kept(i) : 0;
    }

    public int count(int what) {
        switch (what) {
            case 0:
                return grammar.size();
            case 1:
                return grammar.bodies();
            case 2:
                return staged ? 1 : 0;
            case 3:
                return text.size();
            default:
                return -1;
        }
    }

    private static boolean isSign(int c) {
        return c >= 0 && c <= SIGN_MOST;
    }

    private static boolean isRegister(int i) {
        return i >= 0 && i < REGISTERS;
    }

    private static int joined(int way, int v, int w) {
        switch (way) {
            case SECOND:
                return w;
            case SUM:
                return v + w;
            case DIFFERENCE:
                return v - w;
            case PRODUCT:
                return v * w;
            case DIGIT:
                return 10 * v + w - '0';
            case GREATER:
                return Math.max(v, w);
            case ALIKE:
                return v == w ? 1 : 0;
            default:
                return v;
        }
    }

    private static int wayOfSign(int sign) {
        switch (sign) {
            case '+':
                return SUM;
            case '-':
                return DIFFERENCE;
            case '*':
                return PRODUCT;
            default:
                return FIRST;
        }
    }

    /** The characters that were typed. */
    private static final class Text {
        private final char[] signs = new char[TEXT_MOST];
        private int size;

        boolean isFull() {
            return size >= TEXT_MOST;
        }

        int size() {
            return size;
        }

        void append(char c) {
            if (size < TEXT_MOST) {
                signs[size] = c;
                size++;
            }
        }

        void erase() {
            size = 0;
        }

        int signAt(int place) {
            return place >= 0 && place < size ? signs[place] : NOTHING;
        }
    }

    /** The nodes and the rules' bodies. */
    private static final class Grammar {
        private final int[] kinds = new int[NODES_MOST];
        private final int[] as = new int[NODES_MOST];
        private final int[] bs = new int[NODES_MOST];
        private final int[] cs = new int[NODES_MOST];
        private final int[] heights = new int[NODES_MOST];
        private final int[] bodyOf = new int[RULES];
        private int size;

        Grammar() {
            Arrays.fill(bodyOf, NOTHING);
        }

        int size() {
            return size;
        }

        boolean isFull() {
            return size >= NODES_MOST;
        }

        boolean isNode(int n) {
            return n >= 0 && n < size;
        }

        boolean isRule(int r) {
            return r >= 0 && r < RULES;
        }

        boolean hasBody(int r) {
            return isRule(r) && bodyOf[r] != NOTHING;
        }

        /** The node that is rule r's body, or NOTHING. */
        int body(int r) {
            return isRule(r) ? bodyOf[r] : NOTHING;
        }

        void setBody(int r, int n) {
            if (isRule(r) && isNode(n)) {
                bodyOf[r] = n;
            }
        }

        int bodies() {
            int bodies = 0;
            for (int r = 0; r < RULES; r++) {
                if (hasBody(r)) {
                    bodies++;
                }
            }
            return bodies;
        }

        int kind(int n) {
            return isNode(n) ? kinds[n] : NONE;
        }

        int a(int n) {
            return isNode(n) ? as[n] : NOTHING;
        }

        int b(int n) {
            return isNode(n) ? bs[n] : NOTHING;
        }

        int c(int n) {
            return isNode(n) ? cs[n] : NOTHING;
        }

        boolean allows(int kind, int a, int b, int c) {
            switch (kind) {
                case PURE:
                case NONE:
                    return true;
                case SIGN:
                    return isSign(a);
                case RANGE:
                    return isSign(a) && isSign(b) && a <= b;
                case THEN:
                    return canBePart(a) && canBePart(b) && isWay(c);
                case OR:
                case CHAIN:
                    return canBePart(a) && canBePart(b);
                case TRY:
                case LOOK:
                case NOT:
                    return canBePart(a);
                case MANY:
                    return canBePart(a) && isWay(b);
                case RULE:
                    return isRule(a);
                case KEEP:
                    return canBePart(a) && isRegister(b);
                case KEPT:
                    return isRegister(a);
                default:
                    return false;
            }
        }

        int add(int kind, int a, int b, int c) {
            if (isFull() || !allows(kind, a, b, c)) {
                return NOTHING;
            }
            int n = size;
            kinds[n] = kind;
            as[n] = a;
            bs[n] = b;
            cs[n] = c;
            heights[n] = 1;
            if (PARTS[kind] >= 1) {
                heights[n] = 1 + heights[a];
            }
            if (PARTS[kind] >= 2) {
                heights[n] = 1 + Math.max(heights[a], heights[b]);
            }
            size++;
            return n;
        }

        private boolean canBePart(int n) {
            return isNode(n) && heights[n] < HEIGHT_MOST;
        }

        private static boolean isWay(int way) {
            return way >= 0 && way < WAYS;
        }
    }

    /** What can be told of nodes and rules without running them, by the bodies as they are. */
    private static final class Study {
        private final Grammar grammar;
        private final boolean[] emptyNodes = new boolean[NODES_MOST];
        private final boolean[] beginners = new boolean[NODES_MOST];
        private final boolean[] inBodies = new boolean[NODES_MOST];
        private final int[] nodeLeads = new int[NODES_MOST];
        private final int[] ruleLeads = new int[RULES];

        Study(Grammar grammar) {
            this.grammar = grammar;
        }

        boolean isEmpty(int n) {
            findEmptyNodes();
            return marked(emptyNodes, n);
        }

        boolean canBegin(int n, int sign) {
            findEmptyNodes();
            findBeginners(sign);
            return marked(beginners, n);
        }

        int ledTo(int r) {
            findLeads();
            return r >= 0 && r < RULES ? ruleLeads[r] : 0;
        }

        boolean isInBodies(int n) {
            return marked(inBodies, n);
        }

        int fault() {
            findNodesInBodies();
            findLeads();
            if (hasRuleWithoutBody()) {
                return RULE_WITHOUT_BODY;
            }
            if (hasEndlessLoop()) {
                return ENDLESS_LOOP;
            }
            return hasRuleThatLeadsToItself() ? LEADS_TO_ITSELF : WELL_MADE;
        }

        private boolean marked(boolean[] marks, int n) {
            return grammar.isNode(n) && marks[n];
        }

        private void unmark(boolean[] marks) {
            for (int n = 0; n < NODES_MOST; n++) {
                marks[n] = false;
            }
        }

        // Nodes are made of earlier ones, so only a RULE can need what a later node has:
        // one pass more than there are rules reaches the least answer.
        private void findEmptyNodes() {
            unmark(emptyNodes);
            for (int pass = 0; pass <= RULES; pass++) {
                for (int n = 0; n < grammar.size(); n++) {
                    emptyNodes[n] = emptyByParts(n);
                }
            }
        }

        private boolean emptyByParts(int n) {
            int a = grammar.a(n);
            int b = grammar.b(n);
            switch (grammar.kind(n)) {
                case PURE:
                case LOOK:
                case NOT:
                case MANY:
                case KEPT:
                    return true;
                case THEN:
                    return marked(emptyNodes, a) && marked(emptyNodes, b);
                case OR:
                    return marked(emptyNodes, a) || marked(emptyNodes, b);
                case TRY:
                case KEEP:
                case CHAIN:
                    return marked(emptyNodes, a);
                case RULE:
                    return marked(emptyNodes, grammar.body(a));
                default:
                    return false;
            }
        }

        private void findBeginners(int sign) {
            unmark(beginners);
            for (int pass = 0; pass <= RULES; pass++) {
                for (int n = 0; n < grammar.size(); n++) {
                    beginners[n] = beginsByParts(n, sign);
                }
            }
        }

        private boolean beginsByParts(int n, int sign) {
            int a = grammar.a(n);
            int b = grammar.b(n);
            switch (grammar.kind(n)) {
                case SIGN:
                    return sign == a;
                case RANGE:
                    return sign >= a && sign <= b;
                case THEN:
                case CHAIN:
                    return marked(beginners, a) || marked(emptyNodes, a) && marked(beginners, b);
                case OR:
                    return marked(beginners, a) || marked(beginners, b);
                case TRY:
                case MANY:
                case KEEP:
                    return marked(beginners, a);
                case RULE:
                    return marked(beginners, grammar.body(a));
                default:
                    return false;
            }
        }

        private void findLeads() {
            findEmptyNodes();
            for (int n = 0; n < grammar.size(); n++) {
                nodeLeads[n] = leadsByParts(n);
            }
            for (int r = 0; r < RULES; r++) {
                ruleLeads[r] = leadsOf(grammar.body(r));
            }
            for (int middle = 0; middle < RULES; middle++) {
                for (int r = 0; r < RULES; r++) {
                    if ((ruleLeads[r] >> middle & 1) == 1) {
                        ruleLeads[r] |= ruleLeads[middle];
                    }
                }
            }
        }

        private int leadsByParts(int n) {
            int a = grammar.a(n);
            int b = grammar.b(n);
            switch (grammar.kind(n)) {
                case RULE:
                    return 1 << a;
                case THEN:
                case CHAIN:
                    return marked(emptyNodes, a) ? leadsOf(a) | leadsOf(b) : leadsOf(a);
                case OR:
                    return leadsOf(a) | leadsOf(b);
                case TRY:
                case LOOK:
                case NOT:
                case MANY:
                case KEEP:
                    return leadsOf(a);
                default:
                    return 0;
            }
        }

        private int leadsOf(int n) {
            return grammar.isNode(n) ? nodeLeads[n] : 0;
        }

        private void findNodesInBodies() {
            unmark(inBodies);
            for (int r = 0; r < RULES; r++) {
                markInBodies(grammar.body(r));
            }
            for (int n = grammar.size() - 1; n >= 0; n--) {
                int parts = inBodies[n] ? PARTS[grammar.kind(n)] : 0;
                if (parts >= 1) {
                    markInBodies(grammar.a(n));
                }
                if (parts >= 2) {
                    markInBodies(grammar.b(n));
                }
            }
        }

        private void markInBodies(int n) {
            if (grammar.isNode(n)) {
                inBodies[n] = true;
            }
        }

        private boolean hasRuleWithoutBody() {
            for (int n = 0; n < grammar.size(); n++) {
                if (inBodies[n] && grammar.kind(n) == RULE && !grammar.hasBody(grammar.a(n))) {
                    return true;
                }
            }
            return false;
        }

        private boolean hasEndlessLoop() {
            for (int n = 0; n < grammar.size(); n++) {
                if (inBodies[n] && couldLoop(n)) {
                    return true;
                }
            }
            return false;
        }

        private boolean couldLoop(int n) {
            boolean firstEmpty = marked(emptyNodes, grammar.a(n));
            switch (grammar.kind(n)) {
                case MANY:
                    return firstEmpty;
                case CHAIN:
                    return firstEmpty && marked(emptyNodes, grammar.b(n));
                default:
                    return false;
            }
        }

        private boolean hasRuleThatLeadsToItself() {
            for (int r = 0; r < RULES; r++) {
                if ((ruleLeads[r] >> r & 1) == 1) {
                    return true;
                }
            }
            return false;
        }
    }

    /** Instructions of an operation and two operands; each node has a piece of its own, which ends with RETURN. */
    private static final class Code {
        private final int[] operations = new int[CODE_MOST];
        private final int[] ps = new int[CODE_MOST];
        private final int[] qs = new int[CODE_MOST];
        private final int[] pieceOf = new int[NODES_MOST];
        private final int[] entryOf = new int[RULES];
        private int size;

        int operation(int at) {
            return at >= 0 && at < size ? operations[at] : END;
        }

        int p(int at) {
            return at >= 0 && at < size ? ps[at] : 0;
        }

        int q(int at) {
            return at >= 0 && at < size ? qs[at] : 0;
        }

        /** Where the code of rule r's body begins. */
        int entry(int r) {
            return r >= 0 && r < RULES ? entryOf[r] : 0;
        }

        // A node's parts were made before it, so their pieces stand already.
        void write(Grammar grammar, Study study) {
            size = 0;
            put(END, 0, 0);
            for (int n = 0; n < grammar.size(); n++) {
                pieceOf[n] = size;
                if (study.isInBodies(n)) {
                    writePiece(grammar.kind(n), grammar.a(n), grammar.b(n), grammar.c(n));
                    put(RETURN, 0, 0);
                }
            }
            for (int r = 0; r < RULES; r++) {
                entryOf[r] = piece(grammar.body(r));
            }
        }

        private void put(int operation, int p, int q) {
            if (size < CODE_MOST) {
                operations[size] = operation;
                ps[size] = p;
                qs[size] = q;
                size++;
            }
        }

        private int piece(int n) {
            return n >= 0 && n < NODES_MOST ? pieceOf[n] : 0;
        }

        private void writePiece(int kind, int a, int b, int c) {
            switch (kind) {
                case PURE:
                    put(GIVE, a, 0);
                    break;
                case SIGN:
                    put(TAKE, a, a);
                    break;
                case RANGE:
                    put(TAKE, a, b);
                    break;
                case THEN:
                    putCall(a);
                    putCall(b);
                    put(JOIN, c, 0);
                    break;
                case OR:
                    writeOr(a, b);
                    break;
                case TRY:
                    put(GUARD, BACK_TO_START, 0);
                    putCall(a);
                    put(UNGUARD, 0, 0);
                    break;
                case LOOK:
                    put(GUARD, LET_THROUGH, 0);
                    putCall(a);
                    put(REWIND, 0, 0);
                    break;
                case NOT:
                    writeNot(a);
                    break;
                case MANY:
                    writeMany(a, b);
                    break;
                case CHAIN:
                    writeChain(a, b);
                    break;
                case RULE:
                    put(CALL_BODY, a, 0);
                    break;
                case KEEP:
                    putCall(a);
                    put(STORE, b, 0);
                    break;
                case KEPT:
                    put(FETCH, a, 0);
                    break;
                default:
                    put(REFUSE, 0, 0);
            }
        }

        private void putCall(int part) {
            put(CALL_PART, piece(part), 0);
        }

        private void writeOr(int x, int y) {
            put(GUARD, IF_NOTHING_TAKEN, size + 4);
            putCall(x);
            put(UNGUARD, 0, 0);
            put(RETURN, 0, 0);
            putCall(y);
        }

        private void writeNot(int x) {
            put(GUARD, TURN_ROUND, size + 4);
            putCall(x);
            put(REWIND, 0, 0);
            put(REFUSE, 0, 0);
            put(GIVE, 0, 0);
        }

        private void writeMany(int x, int way) {
            put(GIVE, 0, 0);
            put(GUARD, IF_NOTHING_TAKEN, size + 4);
            int turn = size;
            putCall(x);
            put(JOIN, way, 0);
            put(AGAIN, turn, 0);
        }

        private void writeChain(int x, int y) {
            putCall(x);
            put(GUARD, IF_NOTHING_TAKEN, size + 5);
            int turn = size;
            putCall(y);
            putCall(x);
            put(LINK, 0, 0);
            put(AGAIN, turn, 0);
        }
    }

    /** What is to be gone back to: calls that stand open, and guards that wait for a failure. */
    private static final class Frames {
        private final int[] manners = new int[FRAMES_MOST];
        private final int[] targets = new int[FRAMES_MOST];
        private final int[] places = new int[FRAMES_MOST];
        private final int[] heights = new int[FRAMES_MOST];
        private int size;

        void reset() {
            size = 0;
        }

        boolean isFull() {
            return size >= FRAMES_MOST;
        }

        int size() {
            return size;
        }

        void push(int manner, int target, int place, int height) {
            if (size < FRAMES_MOST) {
                manners[size] = manner;
                targets[size] = target;
                places[size] = place;
                heights[size] = height;
                size++;
            }
        }

        void pop() {
            if (size > 0) {
                size--;
            }
        }

        void movePlace(int place) {
            if (size > 0) {
                places[size - 1] = place;
            }
        }

        int manner() {
            return size > 0 ? manners[size - 1] : OF_PART;
        }

        int target() {
            return size > 0 ? targets[size - 1] : 0;
        }

        int place() {
            return size > 0 ? places[size - 1] : 0;
        }

        /** How many answers stood there when the frame was pushed. */
        int height() {
            return size > 0 ? heights[size - 1] : 0;
        }
    }

    /** Runs code over a text; afterwards it holds how that went. */
    private static final class Machine {
        private final Code code;
        private final Text text;
        private final Frames frames = new Frames();
        private final int[] answers = new int[ANSWERS_MOST];
        private final int[] registers = new int[REGISTERS];
        private int answerCount;
        private int state;
        private int next;
        private int place;
        private int looks;
        private int far;
        private int bodies;
        private int depth;
        private boolean ran;

        Machine(Code code, Text text) {
            this.code = code;
            this.text = text;
        }

        boolean hasRun() {
            return ran;
        }

        boolean hasSucceeded() {
            return state == SUCCEEDED;
        }

        boolean isTired() {
            return state == TIRED;
        }

        int place() {
            return place;
        }

        int looks() {
            return looks;
        }

        int far() {
            return far;
        }

        int kept(int i) {
            return isRegister(i) ? registers[i] : 0;
        }

        int answer() {
            return answerCount > 0 ? answers[answerCount - 1] : 0;
        }

        void run(int r) {
            reset();
            callBody(r);
            for (int step = 0; step < STEPS_MOST && state == RUNNING; step++) {
                int at = next;
                next = at + 1;
                obey(code.operation(at), code.p(at), code.q(at));
            }
            if (state == RUNNING) {
                state = TIRED;
            }
        }

        // The first body goes back to place 0 of the code, where END stands.
        private void reset() {
            ran = true;
            state = RUNNING;
            frames.reset();
            answerCount = 0;
            Arrays.fill(registers, 0);
            next = 0;
            place = 0;
            looks = 0;
            far = NOTHING;
            bodies = 0;
            depth = 0;
        }

        private void obey(int operation, int p, int q) {
            switch (operation) {
                case GIVE:
                    give(p);
                    break;
                case TAKE:
                    take(p, q);
                    break;
                case REFUSE:
                    failAt(place);
                    break;
                case CALL_PART:
                    pushFrame(OF_PART, next);
                    next = p;
                    break;
                case CALL_BODY:
                    callBody(p);
                    break;
                case RETURN:
                    goBack();
                    break;
                case JOIN:
                    give(joinLastTwo(p));
                    break;
                case LINK:
                    give(linkLastThree());
                    break;
                case GUARD:
                    pushFrame(p, q);
                    break;
                case UNGUARD:
                    frames.pop();
                    break;
                case REWIND:
                    place = frames.place();
                    frames.pop();
                    break;
                case AGAIN:
                    frames.movePlace(place);
                    next = p;
                    break;
                case STORE:
                    store(p, answer());
                    break;
                case FETCH:
                    give(kept(p));
                    break;
                default:
                    state = SUCCEEDED;
            }
        }

        private void give(int answer) {
            if (answerCount >= ANSWERS_MOST) {
                state = TIRED;
                return;
            }
            answers[answerCount] = answer;
            answerCount++;
        }

        private int withdraw() {
            int answer = answer();
            if (answerCount > 0) {
                answerCount--;
            }
            return answer;
        }

        private int joinLastTwo(int way) {
            int w = withdraw();
            int v = withdraw();
            return joined(way, v, w);
        }

        private int linkLastThree() {
            int w = withdraw();
            int sign = withdraw();
            int v = withdraw();
            return joined(wayOfSign(sign), v, w);
        }

        private void store(int i, int answer) {
            if (isRegister(i)) {
                registers[i] = answer;
            }
        }

        private void take(int low, int high) {
            if (looks >= LOOKS_MOST) {
                state = TIRED;
                return;
            }
            looks++;
            int sign = text.signAt(place);
            if (sign != NOTHING && sign >= low && sign <= high) {
                give(sign);
                place++;
            } else {
                far = Math.max(far, place);
                failAt(place);
            }
        }

        private void pushFrame(int manner, int target) {
            if (frames.isFull()) {
                state = TIRED;
                return;
            }
            frames.push(manner, target, place, answerCount);
        }

        private void callBody(int r) {
            if (depth >= DEPTH_MOST || bodies >= BODIES_MOST) {
                state = TIRED;
                return;
            }
            depth++;
            bodies++;
            pushFrame(OF_BODY, next);
            next = code.entry(r);
        }

        private void goBack() {
            next = frames.target();
            dropFrame();
        }

        private void dropFrame() {
            if (frames.manner() == OF_BODY) {
                depth--;
            }
            frames.pop();
        }

        // Goes down through what stands open until a guard stops the failure.
        private void failAt(int failPlace) {
            int at = failPlace;
            for (int open = frames.size(); open > 0; open--) {
                if (stops(at)) {
                    goOnFromGuard();
                    return;
                }
                if (frames.manner() == BACK_TO_START) {
                    at = frames.place();
                }
                dropFrame();
            }
            place = at;
            state = FAILED;
        }

        private boolean stops(int failPlace) {
            switch (frames.manner()) {
                case TURN_ROUND:
                    return true;
                case IF_NOTHING_TAKEN:
                    return failPlace == frames.place();
                default:
                    return false;
            }
        }

        private void goOnFromGuard() {
            place = frames.place();
            answerCount = Math.min(answerCount, frames.height());
            next = frames.target();
            frames.pop();
        }
    }
}
