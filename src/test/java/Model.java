import java.util.ArrayList;
import java.util.List;
import java.util.NoSuchElementException;
import java.util.TreeSet;

/** The document read once more, as plainly as can be: nodes are run by calling themselves, no code is made. */
final class Model {
    private record Node(int kind, int a, int b, int c, int height) {
    }

    /** Where something succeeded or failed, and its answer. */
    private record End(boolean succeeded, int place, int answer) {
    }

    private static final class Tired extends RuntimeException {
        private static final long serialVersionUID = 1;
    }

    private final List<Node> nodes = new ArrayList<>();
    private final Integer[] bodies = new Integer[6];
    private final StringBuilder text = new StringBuilder();
    private boolean code;
    private int[] registers = new int[4];
    private int[] latest = {0, 0, 0, 0};
    private int looks;
    private int far;
    private int run;

    int node(int kind, int a, int b, int c) {
        int height = 1;
        boolean fits = kind >= 0 && kind <= 13;
        if (List.of(4, 5, 6, 7, 8, 9, 10, 12).contains(kind)) {
            fits &= isNode(a);
            height = isNode(a) ? nodes.get(a).height + 1 : 1;
        }
        if (List.of(4, 5, 10).contains(kind)) {
            fits &= isNode(b);
            height = Math.max(height, isNode(b) ? nodes.get(b).height + 1 : 1);
        }
        fits &= kind != 1 && kind != 2 || a >= 0 && a <= 255;
        fits &= kind != 2 || b >= a && b <= 255;
        fits &= kind != 4 || c >= 0 && c <= 7;
        fits &= kind != 9 || b >= 0 && b <= 7;
        fits &= kind != 11 || a >= 0 && a <= 5;
        fits &= kind != 12 || b >= 0 && b <= 3;
        fits &= kind != 13 || a >= 0 && a <= 3;
        if (!fits || height > 8) {
            throw new IllegalArgumentException();
        }
        if (nodes.size() == 80) {
            throw new IllegalStateException();
        }
        nodes.add(new Node(kind, a, b, c, height));
        return nodes.size() - 1;
    }

    int rule(int r, int node) {
        if (r < 0 || r > 5 || !isNode(node)) {
            throw new IllegalArgumentException();
        }
        bodies[r] = node;
        code = false;
        return count(1);
    }

    int stage() {
        int fault = 0;
        for (int r = 5; r >= 0; r--) {
            if (bodies[r] != null && (leads(r) >> r & 1) == 1) {
                fault = 3;
            }
        }
        TreeSet<Integer> inside = new TreeSet<>();
        for (Integer body : bodies) {
            if (body != null) {
                collect(body, inside);
            }
        }
        TreeSet<Integer> empty = emptyNodes();
        for (int n : inside) {
            Node x = nodes.get(n);
            boolean many = x.kind == 9 && empty.contains(x.a);
            boolean chain = x.kind == 10 && empty.contains(x.a) && empty.contains(x.b);
            fault = many || chain ? 2 : fault;
        }
        for (int n : inside) {
            Node x = nodes.get(n);
            fault = x.kind == 11 && bodies[x.a] == null ? 1 : fault;
        }
        code = fault == 0;
        return fault;
    }

    private void collect(int n, TreeSet<Integer> inside) {
        inside.add(n);
        for (int part : parts(n)) {
            collect(part, inside);
        }
    }

    private List<Integer> parts(int n) {
        Node x = nodes.get(n);
        return switch (x.kind) {
            case 4, 5, 10 -> List.of(x.a, x.b);
            case 6, 7, 8, 9, 12 -> List.of(x.a);
            default -> List.of();
        };
    }

    private boolean isNode(int n) {
        return n >= 0 && n < nodes.size();
    }

    private TreeSet<Integer> emptyNodes() {
        TreeSet<Integer> empty = new TreeSet<>();
        boolean more = true;
        while (more) {
            more = false;
            for (int n = 0; n < nodes.size(); n++) {
                Node x = nodes.get(n);
                boolean is = switch (x.kind) {
                    case 0, 7, 8, 9, 13 -> true;
                    case 4 -> empty.contains(x.a) && empty.contains(x.b);
                    case 5 -> empty.contains(x.a) || empty.contains(x.b);
                    case 6, 10, 12 -> empty.contains(x.a);
                    case 11 -> bodies[x.a] != null && empty.contains(bodies[x.a]);
                    default -> false;
                };
                more |= is && empty.add(n);
            }
        }
        return empty;
    }

    boolean empty(int n) {
        if (!isNode(n)) {
            throw new IllegalArgumentException();
        }
        return emptyNodes().contains(n);
    }

    /** The nodes, and rules' bodies, that stand at a node's beginning; LOOK and NOT let through only for leads. */
    private void atBeginning(int n, boolean forLeads, TreeSet<Integer> empty, TreeSet<Integer> seen) {
        if (!seen.add(n)) {
            return;
        }
        Node x = nodes.get(n);
        boolean first = List.of(4, 5, 6, 9, 10, 12).contains(x.kind) || forLeads && (x.kind == 7 || x.kind == 8);
        if (first) {
            atBeginning(x.a, forLeads, empty, seen);
        }
        if (x.kind == 5 || (x.kind == 4 || x.kind == 10) && empty.contains(x.a)) {
            atBeginning(x.b, forLeads, empty, seen);
        }
        if (x.kind == 11 && bodies[x.a] != null) {
            atBeginning(bodies[x.a], forLeads, empty, seen);
        }
    }

    boolean begins(int n, int c) {
        if (!isNode(n) || c < 0 || c > 255) {
            throw new IllegalArgumentException();
        }
        TreeSet<Integer> seen = new TreeSet<>();
        atBeginning(n, false, emptyNodes(), seen);
        for (int s : seen) {
            Node x = nodes.get(s);
            if (x.kind == 1 && x.a == c || x.kind == 2 && x.a <= c && c <= x.b) {
                return true;
            }
        }
        return false;
    }

    int leads(int r) {
        if (r < 0 || r > 5) {
            throw new IllegalArgumentException();
        }
        if (bodies[r] == null) {
            return 0;
        }
        TreeSet<Integer> seen = new TreeSet<>();
        atBeginning(bodies[r], true, emptyNodes(), seen);
        int bits = 0;
        for (int s : seen) {
            bits |= nodes.get(s).kind == 11 ? 1 << nodes.get(s).a : 0;
        }
        return bits;
    }

    int type(char c) {
        if (c > 255) {
            throw new IllegalArgumentException();
        }
        if (text.length() == 40) {
            throw new IllegalStateException();
        }
        return text.append(c).length();
    }

    int clear() {
        int had = text.length();
        text.setLength(0);
        return had;
    }

    int parse(int r) {
        if (!code) {
            throw new IllegalStateException();
        }
        if (r < 0 || r > 5 || bodies[r] == null) {
            throw new IllegalArgumentException();
        }
        registers = new int[4];
        looks = 0;
        far = -1;
        run = 0;
        End end;
        try {
            end = runBody(r, 0, 0);
        } catch (Tired e) {
            latest = new int[] {-1, looks, far, 0};
            throw new UnsupportedOperationException();
        }
        latest = new int[] {end.place, looks, far, end.succeeded ? 1 : 0};
        if (!end.succeeded) {
            throw new NoSuchElementException();
        }
        return end.answer;
    }

    int latest(int what) {
        return what >= 0 && what <= 3 ? latest[what] : -2;
    }

    int register(int i) {
        return i >= 0 && i <= 3 ? registers[i] : 0;
    }

    int count(int what) {
        int rules = 0;
        for (Integer body : bodies) {
            rules += body == null ? 0 : 1;
        }
        return switch (what) {
            case 0 -> nodes.size();
            case 1 -> rules;
            case 2 -> code ? 1 : 0;
            case 3 -> text.length();
            default -> -1;
        };
    }

    private End runBody(int r, int place, int others) {
        if (others >= 40 || run >= 300) {
            throw new Tired();
        }
        run++;
        return run(bodies[r], place, others + 1);
    }

    private static End good(int place, int answer) {
        return new End(true, place, answer);
    }

    private static End bad(int place) {
        return new End(false, place, 0);
    }

    private End look(int place, int low, int high) {
        if (looks == 1500) {
            throw new Tired();
        }
        looks++;
        if (place < text.length() && text.charAt(place) >= low && text.charAt(place) <= high) {
            return good(place + 1, text.charAt(place));
        }
        far = Math.max(far, place);
        return bad(place);
    }

    private End run(int n, int place, int depth) {
        Node x = nodes.get(n);
        switch (x.kind) {
            case 0:
                return good(place, x.a);
            case 1:
                return look(place, x.a, x.a);
            case 2:
                return look(place, x.a, x.b);
            case 3:
                return bad(place);
            case 9:
                return many(x, place, depth);
            case 10:
                return chain(x, place, depth);
            case 11:
                return runBody(x.a, place, depth);
            case 13:
                return good(place, registers[x.a]);
            default:
        }
        End one = run(x.a, place, depth);
        switch (x.kind) {
            case 4:
                End two = one.succeeded ? run(x.b, one.place, depth) : one;
                return two.succeeded ? good(two.place, join(x.c, one.answer, two.answer)) : two;
            case 5:
                return !one.succeeded && one.place == place ? run(x.b, place, depth) : one;
            case 6:
                return one.succeeded ? one : bad(place);
            case 7:
                return one.succeeded ? good(place, one.answer) : one;
            case 8:
                return one.succeeded ? bad(place) : good(place, 0);
            default:
                if (one.succeeded) {
                    registers[x.b] = one.answer;
                }
                return one;
        }
    }

    private End many(Node x, int place, int depth) {
        int answer = 0;
        int at = place;
        while (true) {
            End next = run(x.a, at, depth);
            if (!next.succeeded) {
                return next.place == at ? good(at, answer) : next;
            }
            answer = join(x.b, answer, next.answer);
            at = next.place;
        }
    }

    private End chain(Node x, int place, int depth) {
        End sum = run(x.a, place, depth);
        while (sum.succeeded) {
            End between = run(x.b, sum.place, depth);
            End next = between.succeeded ? run(x.a, between.place, depth) : between;
            if (!next.succeeded) {
                return next.place == sum.place ? sum : next;
            }
            int way = between.answer == 43 ? 2 : between.answer == 45 ? 3 : between.answer == 42 ? 4 : 0;
            sum = good(next.place, join(way, sum.answer, next.answer));
        }
        return sum;
    }

    private static int join(int way, int v, int w) {
        int[] all = {v, w, v + w, v - w, v * w, 10 * v + w - 48, v > w ? v : w, v == w ? 1 : 0};
        return all[way];
    }
}
