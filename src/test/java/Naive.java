import java.util.ArrayDeque;
import java.util.ArrayList;
import java.util.Arrays;
import java.util.Comparator;
import java.util.Deque;
import java.util.List;

/**
 * The document a second time, by its words and without regard to cost: each question is answered by its
 * definition, predictions are made by doing the action on a copy. RandomRunsTest sets the class against it.
 */
public final class Naive {
    public static final int NONE = -1;
    public static final int FULL = -2;
    public static final int LOOP = -3;
    public static final int UNKNOWN = -4;
    public static final int CLASH = -5;

    private record Arc(int from, int to, int gain, int weight, boolean marked) {
    }

    private static final class State {
        int n = 2;
        int m = 2;
        List<Arc> arcs = new ArrayList<>();
        int palette = 1;
        List<Integer> paint = new ArrayList<>(List.of(NONE, NONE));
        int[] totals = new int[4];

        State copy() {
            State s = new State();
            s.n = n;
            s.m = m;
            s.arcs = new ArrayList<>(arcs);
            s.palette = palette;
            s.paint = new ArrayList<>(paint);
            s.totals = totals.clone();
            return s;
        }

        int all() {
            return (1 << arcs.size()) - 1;
        }
    }

    private static final class Misread extends Exception {
        private static final long serialVersionUID = 1;
        final int kind;
        final int at;

        Misread(int kind, int at) {
            this.kind = kind;
            this.at = at;
        }
    }

    private record Token(char kind, String text, int at) {
    }

    private State now = new State();
    private Deque<State> past = new ArrayDeque<>();
    private final State[] slots = new State[2];
    private StringBuilder buffer = new StringBuilder();
    private int error = 0;
    private int statement = NONE;

    // The text.

    public int append(long bytes) {
        StringBuilder more = new StringBuilder();
        for (int k = 7; k >= 0; k--) {
            char c = (char) (bytes >>> 8 * k & 0xFF);
            if (c != 0) {
                more.append(c);
            }
        }
        if (buffer.length() + more.length() > 400) {
            return FULL;
        }
        buffer.append(more);
        return buffer.length();
    }

    public int load() {
        String text = buffer.toString();
        buffer = new StringBuilder();
        try {
            State read = parse(text);
            now = read;
            past.clear();
            error = 0;
            statement = NONE;
            return now.arcs.size();
        } catch (Misread misread) {
            error = misread.kind;
            return -100 - misread.at;
        }
    }

    private static List<Token> tokens(String text) {
        List<Token> found = new ArrayList<>();
        int k = 0;
        while (k < text.length()) {
            int start = k;
            char c = text.charAt(k);
            if (c == ' ') {
                k++;
                continue;
            }
            char kind = c == ';' ? ';' : '?';
            k++;
            if (c >= 'a' && c <= 'z') {
                kind = 'w';
                while (k < text.length() && text.charAt(k) >= 'a' && text.charAt(k) <= 'z') {
                    k++;
                }
            } else if (c >= '0' && c <= '9') {
                kind = 'n';
                while (k < text.length() && text.charAt(k) >= '0' && text.charAt(k) <= '9') {
                    k++;
                }
            }
            found.add(new Token(kind, text.substring(start, k), start));
        }
        found.add(new Token('e', "", text.length()));
        return found;
    }

    /** Walks over all tokens with a state: how many numbers the statement has had, and which word began it. */
    private State parse(String text) throws Misread {
        State s = new State();
        statement = 0;
        String word = null;
        List<Integer> numbers = new ArrayList<>();
        for (Token token : tokens(text)) {
            if (word == null) {
                boolean known = token.kind == 'w'
                        && (statement == 0 ? token.text.equals("graph") : token.text.equals("arc") || token.text.equals("mark"));
                if (!known) {
                    throw new Misread(1, token.at);
                }
                word = token.text;
                if (word.equals("arc") && s.arcs.size() == 12) {
                    throw new Misread(3, token.at);
                }
                numbers.clear();
                continue;
            }
            int count = numbers.size();
            boolean numberCan = word.equals("mark") || count < (word.equals("graph") ? 2 : 4);
            boolean endCan = word.equals("graph") ? count == 2 : word.equals("arc") ? count >= 3 : count >= 1;
            if (token.kind == 'n' && numberCan) {
                numbers.add(number(s, word, count, token));
            } else if ((token.kind == ';' || token.kind == 'e') && endCan) {
                end(s, word, numbers);
                word = null;
                if (token.kind == 'e') {
                    return s;
                }
                statement++;
            } else {
                throw new Misread(1, token.at);
            }
        }
        throw new IllegalStateException();
    }

    private static int number(State s, String word, int index, Token token) throws Misread {
        java.math.BigInteger value = new java.math.BigInteger(token.text);
        int low = word.equals("graph") ? 1 : 0;
        int high = switch (word) {
            case "graph" -> index == 0 ? 8 : 12;
            case "arc" -> index < 2 ? s.n - 1 : index == 2 ? s.m - 1 : 99;
            default -> s.arcs.size() - 1;
        };
        boolean fits = value.compareTo(java.math.BigInteger.valueOf(low)) >= 0
                && value.compareTo(java.math.BigInteger.valueOf(high)) <= 0;
        if (!fits) {
            throw new Misread(2, token.at);
        }
        if (word.equals("graph") && index == 0) {
            s.n = value.intValue();
        }
        return value.intValue();
    }

    private static void end(State s, String word, List<Integer> numbers) {
        if (word.equals("graph")) {
            s.m = numbers.get(1);
            s.paint.clear();
            for (int v = 0; v < s.n; v++) {
                s.paint.add(NONE);
            }
        } else if (word.equals("arc")) {
            s.arcs.add(new Arc(numbers.get(0), numbers.get(1), numbers.get(2), numbers.size() == 4 ? numbers.get(3) : 1, false));
        } else {
            for (int k : numbers) {
                Arc a = s.arcs.get(k);
                s.arcs.set(k, new Arc(a.from, a.to, a.gain, a.weight, true));
            }
        }
    }

    public int loadError() {
        return error;
    }

    public int loadStatement() {
        return error == 0 ? NONE : statement;
    }

    // What stands.

    public int count(int what) {
        return switch (what) {
            case 0 -> now.n;
            case 1 -> now.m;
            case 2 -> now.arcs.size();
            case 3 -> (int) now.arcs.stream().filter(Arc::marked).count();
            case 4 -> past.size();
            case 5 -> now.palette;
            case 6 -> paintedCount();
            default -> throw new IllegalArgumentException();
        };
    }

    private int paintedCount() {
        return (int) now.paint.stream().filter(c -> c != NONE).count();
    }

    public int arc(int arc, int what) {
        needArc(arc);
        Arc a = now.arcs.get(arc);
        return switch (what) {
            case 0 -> a.from;
            case 1 -> a.to;
            case 2 -> a.gain;
            case 3 -> a.weight;
            case 4 -> a.marked ? 1 : 0;
            default -> throw new IllegalArgumentException();
        };
    }

    public int between(int from, int to) {
        needVertex(from);
        needVertex(to);
        int sum = 0;
        for (int k = 0; k < now.arcs.size(); k++) {
            int a = now.arcs.get(k).from;
            int b = now.arcs.get(k).to;
            if (Math.min(a, b) == Math.min(from, to) && Math.max(a, b) == Math.max(from, to)) {
                sum += 1 << k;
            }
        }
        return sum;
    }

    public int marked() {
        int sum = 0;
        for (int k = 0; k < now.arcs.size(); k++) {
            sum += now.arcs.get(k).marked ? 1 << k : 0;
        }
        return sum;
    }

    // Balance.

    private static boolean has(int set, int k) {
        return (set >> k) % 2 == 1;
    }

    /** For each vertex, the lowest vertex that can be reached from it. */
    private static int[] lows(State s, int set) {
        int[] low = new int[s.n];
        for (int v = 0; v < s.n; v++) {
            low[v] = v;
        }
        for (int round = 0; round < s.n; round++) {
            for (int k = 0; k < s.arcs.size(); k++) {
                if (has(set, k)) {
                    Arc a = s.arcs.get(k);
                    int least = Math.min(low[a.from], low[a.to]);
                    low[a.from] = least;
                    low[a.to] = least;
                }
            }
        }
        return low;
    }

    /** Potentials from each lowest vertex on, spread until nothing is new. */
    private static int[] potentials(State s, int set) {
        int[] low = lows(s, set);
        int[] potential = new int[s.n];
        Arrays.fill(potential, NONE);
        for (int v = 0; v < s.n; v++) {
            if (low[v] == v) {
                potential[v] = 0;
            }
        }
        for (int round = 0; round < s.n; round++) {
            for (int k = 0; k < s.arcs.size(); k++) {
                if (has(set, k)) {
                    Arc a = s.arcs.get(k);
                    if (potential[a.from] != NONE && potential[a.to] == NONE) {
                        potential[a.to] = (potential[a.from] + a.gain) % s.m;
                    } else if (potential[a.to] != NONE && potential[a.from] == NONE) {
                        potential[a.from] = (potential[a.to] + s.m - a.gain) % s.m;
                    }
                }
            }
        }
        return potential;
    }

    private static boolean fits(State s, int[] potential, Arc a) {
        return (potential[a.from] + a.gain) % s.m == potential[a.to];
    }

    private static boolean balancedAt(State s, int set, int vertex) {
        int[] low = lows(s, set);
        int[] potential = potentials(s, set);
        for (int k = 0; k < s.arcs.size(); k++) {
            Arc a = s.arcs.get(k);
            if (has(set, k) && low[a.from] == low[vertex] && !fits(s, potential, a)) {
                return false;
            }
        }
        return true;
    }

    private static int countParts(State s, int set, boolean balancedOnly) {
        int[] low = lows(s, set);
        int found = 0;
        for (int v = 0; v < s.n; v++) {
            if (low[v] == v && (!balancedOnly || balancedAt(s, set, v))) {
                found++;
            }
        }
        return found;
    }

    private static boolean balanced(State s, int set) {
        int[] potential = potentials(s, set);
        for (int k = 0; k < s.arcs.size(); k++) {
            if (has(set, k) && !fits(s, potential, s.arcs.get(k))) {
                return false;
            }
        }
        return true;
    }

    public int components(int set) {
        needSet(set);
        return countParts(now, set, false);
    }

    public int componentOf(int set, int vertex) {
        needVertex(vertex);
        needSet(set);
        return lows(now, set)[vertex];
    }

    public boolean isBalanced(int set) {
        needSet(set);
        return balanced(now, set);
    }

    public boolean isBalancedAt(int set, int vertex) {
        needVertex(vertex);
        needSet(set);
        return balancedAt(now, set, vertex);
    }

    public int potential(int set, int vertex) {
        needVertex(vertex);
        needSet(set);
        return balancedAt(now, set, vertex) ? potentials(now, set)[vertex] : NONE;
    }

    public int walk(int vertex, int first, int second, int third) {
        needVertex(vertex);
        for (int arc : new int[] {first, second, third}) {
            if (arc != NONE) {
                needArc(arc);
            }
        }
        int at = vertex;
        int sum = 0;
        for (int arc : new int[] {first, second, third}) {
            if (arc == NONE) {
                continue;
            }
            Arc a = now.arcs.get(arc);
            if (a.from == at) {
                at = a.to;
                sum += a.gain;
            } else if (a.to == at) {
                at = a.from;
                sum -= a.gain;
            } else {
                return NONE;
            }
        }
        return Math.floorMod(sum, now.m);
    }

    // Ranks.

    private static int rank(State s, int set) {
        return s.n - countParts(s, set, true);
    }

    private static int closure(State s, int set) {
        int sum = 0;
        for (int k = 0; k < s.arcs.size(); k++) {
            if (rank(s, set | 1 << k) == rank(s, set)) {
                sum += 1 << k;
            }
        }
        return sum;
    }

    private static boolean independent(State s, int set) {
        return rank(s, set) == Integer.bitCount(set);
    }

    private static boolean circuit(State s, int set) {
        if (independent(s, set)) {
            return false;
        }
        for (int k = 0; k < s.arcs.size(); k++) {
            if (has(set, k) && !independent(s, set - (1 << k))) {
                return false;
            }
        }
        return true;
    }

    private static boolean cycle(State s, int set) {
        if (set == 0) {
            return false;
        }
        int[] low = lows(s, set);
        int[] ends = new int[s.n];
        int place = NONE;
        for (int k = 0; k < s.arcs.size(); k++) {
            if (has(set, k)) {
                Arc a = s.arcs.get(k);
                ends[a.from]++;
                ends[a.to]++;
                if (place != NONE && low[a.from] != place) {
                    return false;
                }
                place = low[a.from];
            }
        }
        return Arrays.stream(ends).allMatch(e -> e == 0 || e == 2);
    }

    public int rank(int set) {
        needSet(set);
        return rank(now, set);
    }

    public int closure(int set) {
        needSet(set);
        return closure(now, set);
    }

    public int balancedClosure(int set) {
        needSet(set);
        int sum = 0;
        for (int k = 0; k < now.arcs.size(); k++) {
            Arc a = now.arcs.get(k);
            if (lows(now, set)[a.from] == lows(now, set)[a.to] && balancedAt(now, set, a.from)
                    && balancedAt(now, set | 1 << k, a.from)) {
                sum += 1 << k;
            }
        }
        return sum;
    }

    public boolean isFlat(int set) {
        needSet(set);
        return closure(now, set) == set;
    }

    public boolean isIndependent(int set) {
        needSet(set);
        return independent(now, set);
    }

    public int circuitKind(int set) {
        needSet(set);
        if (!circuit(now, set)) {
            return NONE;
        }
        if (cycle(now, set)) {
            return 1;
        }
        List<Integer> inside = new ArrayList<>();
        for (int part = 1; part < set; part++) {
            if ((part & set) == part && cycle(now, part)) {
                inside.add(part);
            }
        }
        if (inside.size() == 3) {
            return 2;
        }
        int common = 0;
        for (int v = 0; v < now.n; v++) {
            common += touches(inside.get(0), v) && touches(inside.get(1), v) ? 1 : 0;
        }
        return common == 1 ? 3 : 4;
    }

    private boolean touches(int set, int vertex) {
        for (int k = 0; k < now.arcs.size(); k++) {
            if (has(set, k) && (now.arcs.get(k).from == vertex || now.arcs.get(k).to == vertex)) {
                return true;
            }
        }
        return false;
    }

    public int circuits(int arcs) {
        needRange(arcs, 1, 12);
        int found = 0;
        for (int set = 0; set <= now.all(); set++) {
            found += Integer.bitCount(set) == arcs && circuit(now, set) ? 1 : 0;
        }
        return found;
    }

    public int cycles(int arcs, boolean balanced) {
        needRange(arcs, 1, 12);
        int found = 0;
        for (int set = 0; set <= now.all(); set++) {
            found += Integer.bitCount(set) == arcs && cycle(now, set) && balanced(now, set) == balanced ? 1 : 0;
        }
        return found;
    }

    private static int bases(State s) {
        int found = 0;
        for (int set = 0; set <= s.all(); set++) {
            found += independent(s, set) && rank(s, set) == rank(s, s.all()) ? 1 : 0;
        }
        return found;
    }

    public int bases() {
        return bases(now);
    }

    public int flats(int rank) {
        needRange(rank, 0, 8);
        int found = 0;
        for (int set = 0; set <= now.all(); set++) {
            found += rank(now, set) == rank && closure(now, set) == set ? 1 : 0;
        }
        return found;
    }

    public int leastBasis() {
        List<Integer> order = new ArrayList<>();
        for (int k = 0; k < now.arcs.size(); k++) {
            order.add(k);
        }
        order.sort(Comparator.comparing((Integer k) -> now.arcs.get(k).weight).thenComparing(k -> k));
        int basis = 0;
        for (int k : order) {
            if (independent(now, basis | 1 << k)) {
                basis |= 1 << k;
            }
        }
        return basis;
    }

    public int weight(int set) {
        needSet(set);
        int sum = 0;
        for (int k = 0; k < now.arcs.size(); k++) {
            sum += has(set, k) ? now.arcs.get(k).weight : 0;
        }
        return sum;
    }

    public boolean isBridge(int arc) {
        needArc(arc);
        for (int set = 0; set <= now.all(); set++) {
            if (!has(set, arc) && independent(now, set) && rank(now, set) == rank(now, now.all())) {
                return false;
            }
        }
        return true;
    }

    public int frustration() {
        for (int size = 0; size <= now.arcs.size(); size++) {
            for (int set = 0; set <= now.all(); set++) {
                if (Integer.bitCount(set) == size && balanced(now, now.all() - set)) {
                    return set;
                }
            }
        }
        throw new IllegalStateException();
    }

    // Colorings: one by one where they are few enough to be written down, by sets of arcs otherwise.

    private static final int FEW = 20000;

    private static boolean clashing(State s, Arc a, int x, int y) {
        if (x == 0 || y == 0) {
            return x == 0 && y == 0;
        }
        int i = (x - 1) / s.m;
        int j = (y - 1) / s.m;
        return i == j && ((x - 1) % s.m + a.gain) % s.m == (y - 1) % s.m;
    }

    private static boolean proper(State s, int[] colors) {
        for (Arc a : s.arcs) {
            if (clashing(s, a, colors[a.from], colors[a.to])) {
                return false;
            }
        }
        return true;
    }

    private static double power(int base, int exponent) {
        return Math.pow(base, exponent);
    }

    private static List<int[]> allProper(State s, int k) {
        int base = s.m * k + 1;
        List<int[]> found = new ArrayList<>();
        int[] colors = new int[s.n];
        long codes = Math.round(power(base, s.n));
        for (long code = 0; code < codes; code++) {
            long rest = code;
            for (int v = s.n - 1; v >= 0; v--) {
                colors[v] = (int) (rest % base);
                rest /= base;
            }
            if (proper(s, colors)) {
                found.add(colors.clone());
            }
        }
        return found;
    }

    private static long countProper(State s, int k, boolean zeroFree) {
        int base = s.m * k + 1;
        if (power(base, s.n) <= FEW) {
            return allProper(s, k).stream().filter(c -> !zeroFree || Arrays.stream(c).noneMatch(x -> x == 0)).count();
        }
        long sum = 0;
        for (int set = 0; set <= s.all(); set++) {
            if (!zeroFree || balanced(s, set)) {
                long term = 1;
                for (int b = countParts(s, set, true); b > 0; b--) {
                    term *= zeroFree ? base - 1 : base;
                }
                sum += Integer.bitCount(set) % 2 == 0 ? term : -term;
            }
        }
        return sum;
    }

    public long colorings(int colors) {
        needRange(colors, 1, 5);
        return countProper(now, colors, false);
    }

    public long zeroFree(int colors) {
        needRange(colors, 1, 5);
        return countProper(now, colors, true);
    }

    public long coefficient(int power) {
        needRange(power, 0, 8);
        long sum = 0;
        for (int set = 0; set <= now.all(); set++) {
            if (countParts(now, set, true) == power) {
                sum += Integer.bitCount(set) % 2 == 0 ? 1 : -1;
            }
        }
        return sum;
    }

    public int colorAt(int colors, int index, int vertex) {
        needVertex(vertex);
        needRange(colors, 1, 5);
        needRange(index, 0, Integer.MAX_VALUE);
        if (power(now.m * colors + 1, now.n) > 200000) {
            return UNKNOWN;
        }
        List<int[]> all = allProper(now, colors);
        return index < all.size() ? all.get(index)[vertex] : NONE;
    }

    public int leastColors() {
        for (int k = 1; k <= 5; k++) {
            if (countProper(now, k, false) > 0) {
                return k;
            }
        }
        return NONE;
    }

    public boolean isProper(int colors, int code) {
        needRange(colors, 1, 5);
        needRange(code, 0, Integer.MAX_VALUE);
        int base = now.m * colors + 1;
        int[] digits = new int[now.n];
        int rest = code;
        for (int v = 0; v < now.n; v++) {
            digits[v] = rest % base;
            rest /= base;
        }
        if (rest != 0) {
            throw new IllegalArgumentException();
        }
        return proper(now, digits);
    }

    // Painting.

    public int setPalette(int colors) {
        needRange(colors, 1, 5);
        act();
        int previous = now.palette;
        now.palette = colors;
        for (int v = 0; v < now.n; v++) {
            now.paint.set(v, NONE);
        }
        return previous;
    }

    public int painted(int vertex) {
        needVertex(vertex);
        return now.paint.get(vertex);
    }

    public int clash(int vertex, int color) {
        needVertex(vertex);
        needRange(color, 0, now.m * now.palette);
        List<Integer> paint = new ArrayList<>(now.paint);
        paint.set(vertex, color);
        for (int k = 0; k < now.arcs.size(); k++) {
            Arc a = now.arcs.get(k);
            boolean touches = a.from == vertex || a.to == vertex;
            if (touches && paint.get(a.from) != NONE && paint.get(a.to) != NONE
                    && clashing(now, a, paint.get(a.from), paint.get(a.to))) {
                return k;
            }
        }
        return NONE;
    }

    public int choices(int vertex) {
        needVertex(vertex);
        int found = 0;
        for (int color = 0; color <= now.m * now.palette; color++) {
            found += clash(vertex, color) == NONE ? 1 : 0;
        }
        return found;
    }

    public int clashes() {
        int found = 0;
        for (Arc a : now.arcs) {
            int x = now.paint.get(a.from);
            int y = now.paint.get(a.to);
            found += x != NONE && y != NONE && clashing(now, a, x, y) ? 1 : 0;
        }
        return found;
    }

    public int completions() {
        int base = now.m * now.palette + 1;
        if (power(base, now.n - paintedCount()) > 200000) {
            return UNKNOWN;
        }
        return complete(0, now.paint.stream().mapToInt(c -> c).toArray(), base);
    }

    private int complete(int vertex, int[] colors, int base) {
        if (vertex == now.n) {
            return proper(now, colors) ? 1 : 0;
        }
        if (now.paint.get(vertex) != NONE) {
            return complete(vertex + 1, colors, base);
        }
        int found = 0;
        for (int color = 0; color < base; color++) {
            colors[vertex] = color;
            found += complete(vertex + 1, colors, base);
        }
        return found;
    }

    public int paint(int vertex, int color) {
        if (clash(vertex, color) != NONE) {
            return CLASH;
        }
        act();
        now.paint.set(vertex, color);
        return paintedCount();
    }

    public int clean(int vertex) {
        needVertex(vertex);
        act();
        return now.paint.set(vertex, NONE);
    }

    public int finish() {
        act();
        for (int v = 0; v < now.n; v++) {
            for (int color = 0; color <= now.m * now.palette && now.paint.get(v) == NONE; color++) {
                if (clash(v, color) == NONE) {
                    now.paint.set(v, color);
                }
            }
        }
        return paintedCount();
    }

    // Likeness and predictions.

    /** Switches the vertices one by one until the forest's arcs have the gain 0, and reads the gain then. */
    private static int normalGain(State s, int arc) {
        int forest = 0;
        for (int k = 0; k < s.arcs.size(); k++) {
            int[] low = lows(s, forest);
            if (low[s.arcs.get(k).from] != low[s.arcs.get(k).to]) {
                forest |= 1 << k;
            }
        }
        State copy = s.copy();
        int[] potential = potentials(s, forest);
        for (int v = 0; v < s.n; v++) {
            switchVertex(copy, v, (s.m - potential[v]) % s.m);
        }
        for (int k = 0; k < s.arcs.size(); k++) {
            if (has(forest, k) && copy.arcs.get(k).gain != 0) {
                throw new IllegalStateException("the forest is not at rest");
            }
        }
        return copy.arcs.get(arc).gain;
    }

    public int normalGain(int arc) {
        needArc(arc);
        return normalGain(now, arc);
    }

    public boolean isLike(int slot) {
        needRange(slot, 0, 1);
        State other = slots[slot];
        if (other == null || other.n != now.n || other.m != now.m || other.arcs.size() != now.arcs.size()) {
            return false;
        }
        for (int k = 0; k < now.arcs.size(); k++) {
            if (now.arcs.get(k).from != other.arcs.get(k).from || now.arcs.get(k).to != other.arcs.get(k).to
                    || normalGain(now, k) != normalGain(other, k)) {
                return false;
            }
        }
        return true;
    }

    public int basesWithout(int arc) {
        needArc(arc);
        State copy = now.copy();
        copy.arcs.remove(arc);
        return bases(copy);
    }

    public long coloringsWithout(int arc, int colors) {
        needArc(arc);
        needRange(colors, 1, 5);
        State copy = now.copy();
        copy.arcs.remove(arc);
        return countProper(copy, colors, false);
    }

    public long coloringsMerged(int arc, int colors) {
        needArc(arc);
        needRange(colors, 1, 5);
        if (now.arcs.get(arc).from == now.arcs.get(arc).to) {
            return LOOP;
        }
        State copy = now.copy();
        contract(copy, arc);
        return countProper(copy, colors, false);
    }

    // Actions.

    public int addArc(int from, int to, int gain) {
        needVertex(from);
        needVertex(to);
        needRange(gain, 0, now.m - 1);
        if (now.arcs.size() == 12) {
            return FULL;
        }
        act();
        now.totals[1]++;
        now.arcs.add(new Arc(from, to, gain, 1, false));
        return now.arcs.size() - 1;
    }

    public int addVertex() {
        if (now.n == 8) {
            return FULL;
        }
        act();
        now.paint.add(NONE);
        return now.n++;
    }

    public int dropArc(int arc) {
        needArc(arc);
        act();
        now.totals[2]++;
        now.arcs.remove(arc);
        return now.arcs.size();
    }

    public int setGain(int arc, int gain) {
        needArc(arc);
        needRange(gain, 0, now.m - 1);
        act();
        Arc a = now.arcs.get(arc);
        now.arcs.set(arc, new Arc(a.from, a.to, gain, a.weight, a.marked));
        return a.gain;
    }

    public int setWeight(int arc, int weight) {
        needArc(arc);
        needRange(weight, 0, 99);
        act();
        Arc a = now.arcs.get(arc);
        now.arcs.set(arc, new Arc(a.from, a.to, a.gain, weight, a.marked));
        return a.weight;
    }

    public int turnArc(int arc) {
        needArc(arc);
        act();
        Arc a = now.arcs.get(arc);
        now.arcs.set(arc, new Arc(a.to, a.from, Math.floorMod(-a.gain, now.m), a.weight, a.marked));
        return now.arcs.get(arc).gain;
    }

    private static int switchVertex(State s, int vertex, int by) {
        int changed = 0;
        for (int k = 0; k < s.arcs.size(); k++) {
            Arc a = s.arcs.get(k);
            int gain = a.gain + (a.to == vertex ? by : 0) - (a.from == vertex ? by : 0);
            Arc b = new Arc(a.from, a.to, Math.floorMod(gain, s.m), a.weight, a.marked);
            changed += a.gain == b.gain ? 0 : 1;
            s.arcs.set(k, b);
        }
        int color = s.paint.get(vertex);
        if (color > 0) {
            int i = (color - 1) / s.m;
            s.paint.set(vertex, 1 + i * s.m + (color - 1 + by) % s.m);
        }
        return changed;
    }

    public int switchAt(int vertex, int by) {
        needVertex(vertex);
        needRange(by, 0, now.m - 1);
        act();
        now.totals[0]++;
        return switchVertex(now, vertex, by);
    }

    private static void contract(State s, int arc) {
        Arc gone = s.arcs.get(arc);
        switchVertex(s, gone.to, (s.m - gone.gain) % s.m);
        s.arcs.remove(arc);
        // The numbers of the vertices that stay, in their order, are their places in this list.
        List<Integer> stay = new ArrayList<>();
        for (int v = 0; v < s.n; v++) {
            if (v != gone.to) {
                stay.add(v);
            }
        }
        for (int k = 0; k < s.arcs.size(); k++) {
            Arc a = s.arcs.get(k);
            int from = stay.indexOf(a.from == gone.to ? gone.from : a.from);
            int to = stay.indexOf(a.to == gone.to ? gone.from : a.to);
            s.arcs.set(k, new Arc(from, to, a.gain, a.weight, a.marked));
        }
        s.paint.remove(gone.to);
        s.n--;
    }

    public int contract(int arc) {
        needArc(arc);
        if (now.arcs.get(arc).from == now.arcs.get(arc).to) {
            return LOOP;
        }
        act();
        now.totals[3]++;
        contract(now, arc);
        return now.n;
    }

    public int mark(int set) {
        needSet(set);
        act();
        int previous = marked();
        setMarks(set);
        return previous;
    }

    private void setMarks(int set) {
        for (int k = 0; k < now.arcs.size(); k++) {
            Arc a = now.arcs.get(k);
            now.arcs.set(k, new Arc(a.from, a.to, a.gain, a.weight, has(set, k)));
        }
    }

    public int markClosure() {
        act();
        setMarks(closure(now, marked()));
        return Integer.bitCount(marked());
    }

    private void act() {
        past.push(now.copy());
        if (past.size() > 8) {
            past.removeLast();
        }
    }

    // Totals, undo, snapshots.

    public int total(int what) {
        needRange(what, 0, 3);
        return now.totals[what];
    }

    public int undo() {
        if (past.isEmpty()) {
            return NONE;
        }
        now = past.pop();
        return past.size();
    }

    public int saveSnapshot(int slot) {
        needRange(slot, 0, 1);
        slots[slot] = now.copy();
        return now.arcs.size();
    }

    public int restoreSnapshot(int slot) {
        needRange(slot, 0, 1);
        if (slots[slot] == null) {
            return NONE;
        }
        now = slots[slot].copy();
        past.clear();
        return now.arcs.size();
    }

    private void needVertex(int vertex) {
        if (vertex < 0 || vertex >= now.n) {
            throw new IndexOutOfBoundsException();
        }
    }

    private void needArc(int arc) {
        if (arc < 0 || arc >= now.arcs.size()) {
            throw new IndexOutOfBoundsException();
        }
    }

    private void needSet(int set) {
        needRange(set, 0, now.all());
    }

    private static void needRange(int value, int low, int high) {
        if (value < low || value > high) {
            throw new IllegalArgumentException();
        }
    }
}
