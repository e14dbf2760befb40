/** Gain graphs as ../shared/DOC.md tells of them; the promises' numbers are those of that document. */
public final class GainGraphs {
    public static final int NONE = -1;
    public static final int FULL = -2;
    public static final int LOOP = -3;
    public static final int UNKNOWN = -4;
    public static final int CLASH = -5;

    private static final int VERTEX_LIMIT = 8;
    private static final int ARC_LIMIT = 12;
    private static final int MODULUS_LIMIT = 12;
    private static final int WEIGHT_LIMIT = 99;
    private static final int PALETTE_LIMIT = 5;
    private static final int COLOR_LIMIT = MODULUS_LIMIT * PALETTE_LIMIT + 1;
    private static final int SET_LIMIT = 1 << ARC_LIMIT;
    private static final int TEXT_LIMIT = 400;
    private static final int SLOTS = 2;
    private static final int SEARCH_LIMIT = 200000;
    private static final int ERROR_BASE = -100;
    private static final int SWITCHES = 0;
    private static final int ADDITIONS = 1;
    private static final int DROPS = 2;
    private static final int CONTRACTIONS = 3;
    private static final int TOTALS = 4;

    private final Graph now = new Graph();
    private final Graph draft = new Graph();
    private final History history = new History();
    private final Graph[] saved = new Graph[SLOTS];
    private final boolean[] isSaved = new boolean[SLOTS];
    private final Reader reader = new Reader();
    private final Sets sets = new Sets();
    private final Search search = new Search();

    public GainGraphs() {
        for (int slot = 0; slot < SLOTS; slot++) {
            saved[slot] = new Graph();
        }
    }

    // Promises 2 to 5: the text.

    public int append(long bytes) {
        return reader.take(bytes);
    }

    public int load() {
        boolean isRead = reader.read(draft);
        reader.length = 0;
        if (!isRead) {
            return ERROR_BASE - reader.errorAt;
        }
        now.copyFrom(draft);
        startAfresh();
        return now.arcs;
    }

    public int loadError() {
        return reader.error;
    }

    public int loadStatement() {
        return reader.error == 0 ? NONE : reader.statement;
    }

    // Promises 6 to 9: what stands.

    public int count(int what) throws IllegalArgumentException {
        switch (what) {
            case 0: return now.vertices;
            case 1: return now.modulus;
            case 2: return now.arcs;
            case 3: return Integer.bitCount(now.marked);
            case 4: return history.size;
            case 5: return now.palette;
            case 6: return now.paintedCount();
            default: throw new IllegalArgumentException();
        }
    }

    public int arc(int arc, int what) throws IndexOutOfBoundsException, IllegalArgumentException {
        needArc(arc);
        switch (what) {
            case 0: return now.from[arc];
            case 1: return now.to[arc];
            case 2: return now.gain[arc];
            case 3: return now.weight[arc];
            case 4: return now.marked >> arc & 1;
            default: throw new IllegalArgumentException();
        }
    }

    public int between(int from, int to) throws IndexOutOfBoundsException {
        needVertex(from);
        needVertex(to);
        return now.arcsBetween(from, to);
    }

    public int marked() {
        return now.marked;
    }

    // Promises 10 to 15: balance.

    public int components(int set) throws IllegalArgumentException {
        needSet(set);
        return sets.partsOf(now, set);
    }

    public int componentOf(int set, int vertex) throws IndexOutOfBoundsException, IllegalArgumentException {
        needVertex(vertex);
        needSet(set);
        return sets.split(now, set).low[vertex];
    }

    public boolean isBalanced(int set) throws IllegalArgumentException {
        needSet(set);
        return sets.isEven(now, set);
    }

    public boolean isBalancedAt(int set, int vertex) throws IndexOutOfBoundsException, IllegalArgumentException {
        needVertex(vertex);
        needSet(set);
        return !sets.split(now, set).isOddAt(vertex);
    }

    public int potential(int set, int vertex) throws IndexOutOfBoundsException, IllegalArgumentException {
        needVertex(vertex);
        needSet(set);
        Parts parts = sets.split(now, set);
        return parts.isOddAt(vertex) ? NONE : parts.height[vertex];
    }

    public int walk(int vertex, int first, int second, int third) throws IndexOutOfBoundsException {
        needVertex(vertex);
        needArcOrNone(first);
        needArcOrNone(second);
        needArcOrNone(third);
        int place = vertex;
        int sum = 0;
        for (int step = 0; step < 3; step++) {
            int arc = step == 0 ? first : step == 1 ? second : third;
            if (arc != NONE) {
                int end = now.otherEnd(arc, place);
                if (end == NONE) {
                    return NONE;
                }
                sum = now.from[arc] == place ? now.plus(sum, now.gain[arc]) : now.minus(sum, now.gain[arc]);
                place = end;
            }
        }
        return sum;
    }

    // Promises 16 to 29: ranks.

    public int rank(int set) throws IllegalArgumentException {
        needSet(set);
        return sets.rankOf(now, set);
    }

    public int closure(int set) throws IllegalArgumentException {
        needSet(set);
        return sets.closureOf(now, set);
    }

    public int balancedClosure(int set) throws IllegalArgumentException {
        needSet(set);
        return sets.evenClosureOf(now, set);
    }

    public boolean isFlat(int set) throws IllegalArgumentException {
        needSet(set);
        return sets.closureOf(now, set) == set;
    }

    public boolean isIndependent(int set) throws IllegalArgumentException {
        needSet(set);
        return sets.isFree(now, set);
    }

    public int circuitKind(int set) throws IllegalArgumentException {
        needSet(set);
        return sets.isCircuit(now, set) ? sets.kindOf(now, set) : NONE;
    }

    public int circuits(int arcs) throws IllegalArgumentException {
        needBetween(arcs, 1, ARC_LIMIT);
        return sets.countCircuits(now, arcs);
    }

    public int cycles(int arcs, boolean balanced) throws IllegalArgumentException {
        needBetween(arcs, 1, ARC_LIMIT);
        return sets.countCycles(now, arcs, balanced);
    }

    public int bases() {
        return sets.countBases(now, now.allArcs());
    }

    public int flats(int rank) throws IllegalArgumentException {
        needBetween(rank, 0, VERTEX_LIMIT);
        return sets.countFlats(now, rank);
    }

    public int leastBasis() {
        return sets.lightestBasis(now);
    }

    public int weight(int set) throws IllegalArgumentException {
        needSet(set);
        return now.weightOf(set);
    }

    public boolean isBridge(int arc) throws IndexOutOfBoundsException {
        needArc(arc);
        int all = now.allArcs();
        return sets.rankOf(now, all & ~(1 << arc)) < sets.rankOf(now, all);
    }

    public int frustration() {
        return sets.fewestOdd(now);
    }

    // Promises 30 to 35: colorings.

    public long colorings(int colors) throws IllegalArgumentException {
        needColors(colors);
        sets.tally(now, 0, 0, false);
        return sets.sumAt(now.colorCount(colors));
    }

    public long zeroFree(int colors) throws IllegalArgumentException {
        needColors(colors);
        sets.tally(now, 0, 0, true);
        return sets.sumAt(now.colorCount(colors) - 1);
    }

    public long coefficient(int power) throws IllegalArgumentException {
        needBetween(power, 0, VERTEX_LIMIT);
        sets.tally(now, 0, 0, false);
        return sets.sums[power];
    }

    public int colorAt(int colors, int index, int vertex) throws IndexOutOfBoundsException, IllegalArgumentException {
        needVertex(vertex);
        needColors(colors);
        if (index < 0) {
            throw new IllegalArgumentException();
        }
        int colorCount = now.colorCount(colors);
        if (power(colorCount, now.vertices) > SEARCH_LIMIT) {
            return UNKNOWN;
        }
        search.begin(colorCount);
        return search.colorIn(now, index, vertex);
    }

    public int leastColors() {
        sets.tally(now, 0, 0, false);
        for (int colors = 1; colors <= PALETTE_LIMIT; colors++) {
            if (sets.sumAt(now.colorCount(colors)) > 0) {
                return colors;
            }
        }
        return NONE;
    }

    public boolean isProper(int colors, int code) throws IllegalArgumentException {
        needColors(colors);
        int colorCount = now.colorCount(colors);
        if (code < 0 || code >= power(colorCount, now.vertices)) {
            throw new IllegalArgumentException();
        }
        search.begin(colorCount);
        search.spell(now, code);
        return now.clashesAmong(search.colors) == 0;
    }

    // Promises 36 to 44: painting.

    public int setPalette(int colors) throws IllegalArgumentException {
        needColors(colors);
        remember();
        int previous = now.palette;
        now.palette = colors;
        now.unpaint();
        return previous;
    }

    public int painted(int vertex) throws IndexOutOfBoundsException {
        needVertex(vertex);
        return now.paint[vertex];
    }

    public int clash(int vertex, int color) throws IndexOutOfBoundsException, IllegalArgumentException {
        needVertex(vertex);
        needPaletteColor(color);
        return now.lowestClash(vertex, color);
    }

    public int choices(int vertex) throws IndexOutOfBoundsException {
        needVertex(vertex);
        return Long.bitCount(now.openColors(now.paint, vertex, now.colorCount(now.palette)));
    }

    public int clashes() {
        return now.clashesAmong(now.paint);
    }

    public int completions() {
        int colorCount = now.colorCount(now.palette);
        if (power(colorCount, now.vertices - now.paintedCount()) > SEARCH_LIMIT) {
            return UNKNOWN;
        }
        if (now.clashesAmong(now.paint) > 0) {
            return 0;
        }
        search.begin(colorCount);
        return search.completionsOf(now);
    }

    public int paint(int vertex, int color) throws IndexOutOfBoundsException, IllegalArgumentException {
        needVertex(vertex);
        needPaletteColor(color);
        if (now.lowestClash(vertex, color) != NONE) {
            return CLASH;
        }
        remember();
        now.paint[vertex] = color;
        return now.paintedCount();
    }

    public int clean(int vertex) throws IndexOutOfBoundsException {
        needVertex(vertex);
        remember();
        int previous = now.paint[vertex];
        now.paint[vertex] = NONE;
        return previous;
    }

    public int finish() {
        remember();
        now.paintTheRest();
        return now.paintedCount();
    }

    // Promises 45 to 49: likeness and predictions.

    public int normalGain(int arc) throws IndexOutOfBoundsException {
        needArc(arc);
        return sets.restGain(now, arc);
    }

    public boolean isLike(int slot) throws IllegalArgumentException {
        needBetween(slot, 0, SLOTS - 1);
        return isSaved[slot] && isSwitchedForm(saved[slot]);
    }

    public int basesWithout(int arc) throws IndexOutOfBoundsException {
        needArc(arc);
        return sets.countBases(now, now.allArcs() & ~(1 << arc));
    }

    public long coloringsWithout(int arc, int colors) throws IndexOutOfBoundsException, IllegalArgumentException {
        needArc(arc);
        needColors(colors);
        sets.tally(now, 1 << arc, 0, false);
        return sets.sumAt(now.colorCount(colors));
    }

    public long coloringsMerged(int arc, int colors) throws IndexOutOfBoundsException, IllegalArgumentException {
        needArc(arc);
        needColors(colors);
        if (now.isLoop(arc)) {
            return LOOP;
        }
        // The sets with the arc are those of the contracted graph, each with one arc more: hence the sign.
        sets.tally(now, 1 << arc, 1 << arc, false);
        return -sets.sumAt(now.colorCount(colors));
    }

    // Promises 50 to 59: actions on the graph.

    public int addArc(int from, int to, int gain) throws IndexOutOfBoundsException, IllegalArgumentException {
        needVertex(from);
        needVertex(to);
        needGain(gain);
        if (now.arcs >= ARC_LIMIT) {
            return FULL;
        }
        remember();
        now.totals[ADDITIONS]++;
        now.putArc(from, to, gain, 1);
        return now.arcs - 1;
    }

    public int addVertex() {
        if (now.vertices >= VERTEX_LIMIT) {
            return FULL;
        }
        remember();
        now.vertices++;
        return now.vertices - 1;
    }

    public int dropArc(int arc) throws IndexOutOfBoundsException {
        needArc(arc);
        remember();
        now.totals[DROPS]++;
        now.takeOut(arc);
        return now.arcs;
    }

    public int setGain(int arc, int gain) throws IndexOutOfBoundsException, IllegalArgumentException {
        needArc(arc);
        needGain(gain);
        remember();
        int previous = now.gain[arc];
        now.gain[arc] = gain;
        return previous;
    }

    public int setWeight(int arc, int weight) throws IndexOutOfBoundsException, IllegalArgumentException {
        needArc(arc);
        needBetween(weight, 0, WEIGHT_LIMIT);
        remember();
        int previous = now.weight[arc];
        now.weight[arc] = weight;
        return previous;
    }

    public int turnArc(int arc) throws IndexOutOfBoundsException {
        needArc(arc);
        remember();
        now.turnRound(arc);
        return now.gain[arc];
    }

    public int switchAt(int vertex, int by) throws IndexOutOfBoundsException, IllegalArgumentException {
        needVertex(vertex);
        needGain(by);
        remember();
        now.totals[SWITCHES]++;
        return now.shiftVertex(vertex, by);
    }

    public int contract(int arc) throws IndexOutOfBoundsException {
        needArc(arc);
        if (now.isLoop(arc)) {
            return LOOP;
        }
        remember();
        now.totals[CONTRACTIONS]++;
        now.mergeEnds(arc);
        return now.vertices;
    }

    public int mark(int set) throws IllegalArgumentException {
        needSet(set);
        remember();
        int previous = now.marked;
        now.marked = set;
        return previous;
    }

    public int markClosure() {
        int closed = sets.closureOf(now, now.marked);
        remember();
        now.marked = closed;
        return Integer.bitCount(closed);
    }

    // Promises 60 to 63: totals, undo, snapshots.

    public int total(int what) throws IllegalArgumentException {
        needBetween(what, 0, TOTALS - 1);
        return now.totals[what];
    }

    public int undo() {
        if (history.size == 0) {
            return NONE;
        }
        history.takeBack(now);
        sets.forget();
        return history.size;
    }

    public int saveSnapshot(int slot) throws IllegalArgumentException {
        needBetween(slot, 0, SLOTS - 1);
        saved[slot].copyFrom(now);
        isSaved[slot] = true;
        return now.arcs;
    }

    public int restoreSnapshot(int slot) throws IllegalArgumentException {
        needBetween(slot, 0, SLOTS - 1);
        if (!isSaved[slot]) {
            return NONE;
        }
        now.copyFrom(saved[slot]);
        startAfresh();
        return now.arcs;
    }

    private void startAfresh() {
        history.size = 0;
        sets.forget();
    }

    /** Stands before each change of an action, and behind its errors: what returns an error is not remembered. */
    private void remember() {
        history.keep(now);
        sets.forget();
    }

    private boolean isSwitchedForm(Graph other) {
        if (now.vertices != other.vertices || now.modulus != other.modulus || now.arcs != other.arcs) {
            return false;
        }
        for (int arc = 0; arc < now.arcs; arc++) {
            if (now.from[arc] != other.from[arc] || now.to[arc] != other.to[arc]
                    || sets.restGain(now, arc) != sets.restGain(other, arc)) {
                return false;
            }
        }
        return true;
    }

    private void needVertex(int vertex) {
        if (vertex < 0 || vertex >= now.vertices) {
            throw new IndexOutOfBoundsException();
        }
    }

    private void needArc(int arc) {
        if (arc < 0 || arc >= now.arcs) {
            throw new IndexOutOfBoundsException();
        }
    }

    private void needArcOrNone(int arc) {
        if (arc != NONE) {
            needArc(arc);
        }
    }

    private void needSet(int set) {
        needBetween(set, 0, now.allArcs());
    }

    private void needGain(int gain) {
        needBetween(gain, 0, now.modulus - 1);
    }

    private void needPaletteColor(int color) {
        needBetween(color, 0, now.colorCount(now.palette) - 1);
    }

    private static void needColors(int colors) {
        needBetween(colors, 1, PALETTE_LIMIT);
    }

    private static void needBetween(int number, int least, int most) {
        if (number < least || number > most) {
            throw new IllegalArgumentException();
        }
    }

    private static long power(int base, int exponent) {
        long product = 1;
        for (int i = 0; i < exponent; i++) {
            product *= base;
        }
        return product;
    }

    /** All that an action can change and a snapshot keeps. */
    private static final class Graph {
        int vertices;
        int modulus;
        int arcs;
        int marked;
        int palette;
        final int[] from = new int[ARC_LIMIT];
        final int[] to = new int[ARC_LIMIT];
        final int[] gain = new int[ARC_LIMIT];
        final int[] weight = new int[ARC_LIMIT];
        // NONE behind the last vertex too, so that a new vertex is not painted.
        final int[] paint = new int[VERTEX_LIMIT];
        final int[] totals = new int[TOTALS];

        Graph() {
            begin(2, 2);
        }

        void begin(int newVertices, int newModulus) {
            vertices = newVertices;
            modulus = newModulus;
            arcs = 0;
            marked = 0;
            palette = 1;
            unpaint();
            for (int what = 0; what < TOTALS; what++) {
                totals[what] = 0;
            }
        }

        void copyFrom(Graph other) {
            vertices = other.vertices;
            modulus = other.modulus;
            arcs = other.arcs;
            marked = other.marked;
            palette = other.palette;
            System.arraycopy(other.from, 0, from, 0, ARC_LIMIT);
            System.arraycopy(other.to, 0, to, 0, ARC_LIMIT);
            System.arraycopy(other.gain, 0, gain, 0, ARC_LIMIT);
            System.arraycopy(other.weight, 0, weight, 0, ARC_LIMIT);
            System.arraycopy(other.paint, 0, paint, 0, VERTEX_LIMIT);
            System.arraycopy(other.totals, 0, totals, 0, TOTALS);
        }

        int allArcs() {
            return (1 << arcs) - 1;
        }

        boolean isLoop(int arc) {
            return from[arc] == to[arc];
        }

        boolean touches(int arc, int vertex) {
            return from[arc] == vertex || to[arc] == vertex;
        }

        /** The end to which the arc leads from a vertex, forward if it can; NONE if it has no end there. */
        int otherEnd(int arc, int vertex) {
            if (from[arc] == vertex) {
                return to[arc];
            }
            return to[arc] == vertex ? from[arc] : NONE;
        }

        int arcsBetween(int one, int other) {
            int found = 0;
            for (int arc = 0; arc < arcs; arc++) {
                if (from[arc] == one && to[arc] == other || from[arc] == other && to[arc] == one) {
                    found |= 1 << arc;
                }
            }
            return found;
        }

        int weightOf(int set) {
            int sum = 0;
            for (int arc = 0; arc < arcs; arc++) {
                if ((set >> arc & 1) != 0) {
                    sum += weight[arc];
                }
            }
            return sum;
        }

        /** Both numbers are gains already, so one step brings the sum back: no divisor is needed. */
        int plus(int one, int other) {
            int sum = one + other;
            return sum >= modulus ? sum - modulus : sum;
        }

        int minus(int one, int other) {
            int rest = one - other;
            return rest < 0 ? rest + modulus : rest;
        }

        void putArc(int newFrom, int newTo, int newGain, int newWeight) {
            if (arcs < ARC_LIMIT) {
                from[arcs] = newFrom;
                to[arcs] = newTo;
                gain[arcs] = newGain;
                weight[arcs] = newWeight;
                arcs++;
            }
        }

        void takeOut(int arc) {
            for (int k = arc; k + 1 < arcs; k++) {
                from[k] = from[k + 1];
                to[k] = to[k + 1];
                gain[k] = gain[k + 1];
                weight[k] = weight[k + 1];
            }
            arcs--;
            int before = (1 << arc) - 1;
            marked = marked & before | marked >> 1 & ~before;
        }

        void turnRound(int arc) {
            int end = from[arc];
            from[arc] = to[arc];
            to[arc] = end;
            gain[arc] = minus(0, gain[arc]);
        }

        int shiftVertex(int vertex, int by) {
            int changed = 0;
            for (int arc = 0; arc < arcs; arc++) {
                if (touches(arc, vertex) && !isLoop(arc)) {
                    int previous = gain[arc];
                    gain[arc] = to[arc] == vertex ? plus(previous, by) : minus(previous, by);
                    changed += gain[arc] == previous ? 0 : 1;
                }
            }
            if (paint[vertex] != NONE) {
                paint[vertex] = shifted(paint[vertex], by);
            }
            return changed;
        }

        void mergeEnds(int arc) {
            int kept = from[arc];
            int gone = to[arc];
            shiftVertex(gone, minus(0, gain[arc]));
            takeOut(arc);
            for (int k = 0; k < arcs; k++) {
                from[k] = renumbered(from[k], kept, gone);
                to[k] = renumbered(to[k], kept, gone);
            }
            for (int vertex = gone; vertex + 1 < vertices; vertex++) {
                paint[vertex] = paint[vertex + 1];
            }
            vertices--;
            paint[vertices] = NONE;
        }

        private static int renumbered(int vertex, int kept, int gone) {
            int place = vertex == gone ? kept : vertex;
            return place > gone ? place - 1 : place;
        }

        int colorCount(int colors) {
            return modulus * colors + 1;
        }

        /** The color i, x plus a gain; the color 0 stays, so that it clashes along an arc with itself alone. */
        int shifted(int color, int by) {
            if (color < 1 || modulus < 1) {
                return color;
            }
            int place = (color - 1) % modulus;
            return color - place + plus(place, by);
        }

        boolean mustNotBe(int arc, int fromColor, int toColor) {
            return toColor == shifted(fromColor, gain[arc]);
        }

        /** The colors that no arc forbids at a vertex, as bits; the vertex's own color does not count. */
        long openColors(int[] colors, int vertex, int colorCount) {
            long barred = 0;
            for (int arc = 0; arc < arcs; arc++) {
                int other = otherEnd(arc, vertex);
                if (other == vertex) {
                    barred |= gain[arc] == 0 ? -1L : 1L;
                } else if (other != NONE && colors[other] != NONE) {
                    int by = to[arc] == vertex ? gain[arc] : minus(0, gain[arc]);
                    barred |= 1L << shifted(colors[other], by);
                }
            }
            return ~barred & (1L << colorCount) - 1;
        }

        int lowestClash(int vertex, int color) {
            for (int arc = 0; arc < arcs; arc++) {
                if (touches(arc, vertex)) {
                    int fromColor = from[arc] == vertex ? color : paint[from[arc]];
                    int toColor = to[arc] == vertex ? color : paint[to[arc]];
                    if (fromColor != NONE && toColor != NONE && mustNotBe(arc, fromColor, toColor)) {
                        return arc;
                    }
                }
            }
            return NONE;
        }

        int clashesAmong(int[] colors) {
            int found = 0;
            for (int arc = 0; arc < arcs; arc++) {
                int fromColor = colors[from[arc]];
                int toColor = colors[to[arc]];
                if (fromColor != NONE && toColor != NONE && mustNotBe(arc, fromColor, toColor)) {
                    found++;
                }
            }
            return found;
        }

        void unpaint() {
            for (int vertex = 0; vertex < VERTEX_LIMIT; vertex++) {
                paint[vertex] = NONE;
            }
        }

        int paintedCount() {
            int found = 0;
            for (int vertex = 0; vertex < vertices; vertex++) {
                found += paint[vertex] == NONE ? 0 : 1;
            }
            return found;
        }

        void paintTheRest() {
            int colorCount = colorCount(palette);
            for (int vertex = 0; vertex < vertices; vertex++) {
                if (paint[vertex] == NONE) {
                    paint[vertex] = lowestBit(openColors(paint, vertex, colorCount));
                }
            }
        }

        private static int lowestBit(long bits) {
            for (int place = 0; place < COLOR_LIMIT; place++) {
                if ((bits >> place & 1) != 0) {
                    return place;
                }
            }
            return NONE;
        }
    }

    /** The latest graphs before actions, in a ring: its length is a power of two, so a mask keeps within it. */
    private static final class History {
        private static final int LENGTH = 8;
        private final Graph[] ring = new Graph[LENGTH];
        private int next;
        int size;

        History() {
            for (int k = 0; k < LENGTH; k++) {
                ring[k] = new Graph();
            }
        }

        void keep(Graph graph) {
            ring[next & LENGTH - 1].copyFrom(graph);
            next = next + 1 & LENGTH - 1;
            size = Math.min(size + 1, LENGTH);
        }

        void takeBack(Graph graph) {
            next = next - 1 & LENGTH - 1;
            graph.copyFrom(ring[next & LENGTH - 1]);
            size--;
        }
    }

    /** The components of a set of arcs: each vertex knows the lowest one of its own and its potential over it. */
    private static final class Parts {
        final int[] low = new int[VERTEX_LIMIT];
        final int[] height = new int[VERTEX_LIMIT];
        int number;
        int even;
        // The lowest vertices of the components that are not balanced, as bits.
        private int odd;

        void begin(Graph graph) {
            for (int vertex = 0; vertex < VERTEX_LIMIT; vertex++) {
                low[vertex] = vertex;
                height[vertex] = 0;
            }
            number = graph.vertices;
            even = graph.vertices;
            odd = 0;
        }

        void copyFrom(Parts other) {
            System.arraycopy(other.low, 0, low, 0, VERTEX_LIMIT);
            System.arraycopy(other.height, 0, height, 0, VERTEX_LIMIT);
            number = other.number;
            even = other.even;
            odd = other.odd;
        }

        boolean isOddAt(int vertex) {
            return (odd >> low[vertex] & 1) != 0;
        }

        boolean isInside(Graph graph, int arc) {
            return low[graph.from[arc]] == low[graph.to[arc]];
        }

        boolean fits(Graph graph, int arc) {
            return graph.plus(height[graph.from[arc]], graph.gain[arc]) == height[graph.to[arc]];
        }

        /** Arcs that do not join change no potential: those of a forest, arc by arc, decide them all. */
        void add(Graph graph, int arc) {
            int start = low[graph.from[arc]];
            int end = low[graph.to[arc]];
            int lack = graph.minus(graph.plus(height[graph.from[arc]], graph.gain[arc]), height[graph.to[arc]]);
            int oddEnds = (odd >> start & 1) + (odd >> end & 1);
            if (start == end) {
                if (lack != 0 && oddEnds == 0) {
                    odd |= 1 << start;
                    even--;
                }
                return;
            }
            int kept = Math.min(start, end);
            int gone = Math.max(start, end);
            int lift = end == gone ? lack : graph.minus(0, lack);
            for (int vertex = 0; vertex < graph.vertices; vertex++) {
                if (low[vertex] == gone) {
                    low[vertex] = kept;
                    height[vertex] = graph.plus(height[vertex], lift);
                }
            }
            number--;
            even -= oddEnds == 2 ? 0 : 1;
            odd = oddEnds == 0 ? odd : odd & ~(1 << gone) | 1 << kept;
        }
    }

    /** What is asked of sets of arcs; a balanced set is called even here, an unbalanced one odd. */
    private static final class Sets {
        private final Parts parts = new Parts();
        private final Parts[] levels = new Parts[ARC_LIMIT + 1];
        private final byte[] numbers = new byte[SET_LIMIT];
        private final byte[] evens = new byte[SET_LIMIT];
        private boolean isSurveyed;
        final long[] sums = new long[VERTEX_LIMIT + 1];
        private final int[] ends = new int[VERTEX_LIMIT];

        Sets() {
            for (int level = 0; level <= ARC_LIMIT; level++) {
                levels[level] = new Parts();
            }
        }

        /** To be called whenever the graph may have changed. */
        void forget() {
            isSurveyed = false;
        }

        Parts split(Graph graph, int set) {
            parts.begin(graph);
            for (int arc = 0; arc < graph.arcs; arc++) {
                if ((set >> arc & 1) != 0) {
                    parts.add(graph, arc);
                }
            }
            return parts;
        }

        /** All sets at once, each from the one without its last arc: dear, so only questions about all sets ask it. */
        private void survey(Graph graph) {
            if (!isSurveyed) {
                levels[0].begin(graph);
                spread(this, graph, 0, 0);
                isSurveyed = true;
            }
        }

        private static void spread(Sets sets, Graph graph, int arc, int set) {
            Parts here = sets.levels[arc];
            if (arc >= graph.arcs || arc >= ARC_LIMIT) {
                sets.numbers[set] = (byte) here.number;
                sets.evens[set] = (byte) here.even;
                return;
            }
            Parts next = sets.levels[arc + 1];
            next.copyFrom(here);
            spread(sets, graph, arc + 1, set);
            // The levels below have changed only what lies below them.
            next.add(graph, arc);
            spread(sets, graph, arc + 1, set | 1 << arc);
        }

        int partsOf(Graph graph, int set) {
            return isSurveyed ? numbers[set] : split(graph, set).number;
        }

        boolean isEven(Graph graph, int set) {
            if (isSurveyed) {
                return numbers[set] == evens[set];
            }
            Parts split = split(graph, set);
            return split.number == split.even;
        }

        int rankOf(Graph graph, int set) {
            return graph.vertices - (isSurveyed ? evens[set] : split(graph, set).even);
        }

        boolean isFree(Graph graph, int set) {
            return rankOf(graph, set) == Integer.bitCount(set);
        }

        int closureOf(Graph graph, int set) {
            int rank = rankOf(graph, set);
            int closed = set;
            for (int arc = 0; arc < graph.arcs; arc++) {
                if (rankOf(graph, set | 1 << arc) == rank) {
                    closed |= 1 << arc;
                }
            }
            return closed;
        }

        int evenClosureOf(Graph graph, int set) {
            Parts split = split(graph, set);
            int closed = 0;
            for (int arc = 0; arc < graph.arcs; arc++) {
                if (split.isInside(graph, arc) && !split.isOddAt(graph.from[arc]) && split.fits(graph, arc)) {
                    closed |= 1 << arc;
                }
            }
            return closed;
        }

        boolean isCircuit(Graph graph, int set) {
            int size = Integer.bitCount(set);
            if (rankOf(graph, set) == size) {
                return false;
            }
            for (int arc = 0; arc < graph.arcs; arc++) {
                int bit = 1 << arc;
                if ((set & bit) != 0 && rankOf(graph, set & ~bit) < size - 1) {
                    return false;
                }
            }
            return true;
        }

        /** Of a circuit: two cycles with one vertex in common have four ends there, and only a way between two breaks. */
        int kindOf(Graph graph, int set) {
            if (isEven(graph, set)) {
                return 1;
            }
            countEnds(graph, set);
            for (int vertex = 0; vertex < graph.vertices; vertex++) {
                if (ends[vertex] == 4) {
                    return 3;
                }
            }
            return hasWayBetween(graph, set) ? 4 : 2;
        }

        private boolean hasWayBetween(Graph graph, int set) {
            int number = partsOf(graph, set);
            for (int arc = 0; arc < graph.arcs; arc++) {
                int bit = 1 << arc;
                if ((set & bit) != 0 && partsOf(graph, set & ~bit) > number) {
                    return true;
                }
            }
            return false;
        }

        private void countEnds(Graph graph, int set) {
            for (int vertex = 0; vertex < VERTEX_LIMIT; vertex++) {
                ends[vertex] = 0;
            }
            for (int arc = 0; arc < graph.arcs; arc++) {
                if ((set >> arc & 1) != 0) {
                    ends[graph.from[arc]]++;
                    ends[graph.to[arc]]++;
                }
            }
        }

        private boolean isCycle(Graph graph, int set) {
            countEnds(graph, set);
            int alone = 0;
            for (int vertex = 0; vertex < graph.vertices; vertex++) {
                if (ends[vertex] == 0) {
                    alone++;
                } else if (ends[vertex] != 2) {
                    return false;
                }
            }
            return partsOf(graph, set) == alone + 1;
        }

        int countCircuits(Graph graph, int size) {
            survey(graph);
            int found = 0;
            for (int set = 0; set <= graph.allArcs(); set++) {
                if (Integer.bitCount(set) == size && isCircuit(graph, set)) {
                    found++;
                }
            }
            return found;
        }

        int countCycles(Graph graph, int size, boolean isEvenWanted) {
            survey(graph);
            int found = 0;
            for (int set = 0; set <= graph.allArcs(); set++) {
                if (Integer.bitCount(set) == size && isEven(graph, set) == isEvenWanted && isCycle(graph, set)) {
                    found++;
                }
            }
            return found;
        }

        /** The bases of the graph that has these arcs alone. */
        int countBases(Graph graph, int arcs) {
            survey(graph);
            int rank = rankOf(graph, arcs);
            int found = 0;
            for (int set = 0; set <= arcs; set++) {
                if ((set & ~arcs) == 0 && rankOf(graph, set) == rank && isFree(graph, set)) {
                    found++;
                }
            }
            return found;
        }

        int countFlats(Graph graph, int rank) {
            survey(graph);
            int found = 0;
            for (int set = 0; set <= graph.allArcs(); set++) {
                if (rankOf(graph, set) == rank && closureOf(graph, set) == set) {
                    found++;
                }
            }
            return found;
        }

        int lightestBasis(Graph graph) {
            int seen = 0;
            int basis = 0;
            for (int round = 0; round < graph.arcs; round++) {
                int bit = 1 << lightestArc(graph, seen);
                seen |= bit;
                if (isFree(graph, basis | bit)) {
                    basis |= bit;
                }
            }
            return basis;
        }

        private static int lightestArc(Graph graph, int seen) {
            int best = 0;
            int bestWeight = WEIGHT_LIMIT + 1;
            for (int arc = 0; arc < graph.arcs; arc++) {
                if ((seen >> arc & 1) == 0 && graph.weight[arc] < bestWeight) {
                    best = arc;
                    bestWeight = graph.weight[arc];
                }
            }
            return best;
        }

        int fewestOdd(Graph graph) {
            survey(graph);
            int all = graph.allArcs();
            int best = all;
            for (int set = 0; set <= all; set++) {
                if (Integer.bitCount(set) < Integer.bitCount(best) && isEven(graph, all & ~set)) {
                    best = set;
                }
            }
            return best;
        }

        /** The gain of an arc when the forest's arcs have none: the potentials over all arcs are those of the forest. */
        int restGain(Graph graph, int arc) {
            Parts split = split(graph, graph.allArcs());
            int before = graph.plus(split.height[graph.from[arc]], graph.gain[arc]);
            return graph.minus(before, split.height[graph.to[arc]]);
        }

        /** Sums the signs of the sets that agree with wanted on the arcs of mask, for each number of even components. */
        void tally(Graph graph, int mask, int wanted, boolean isEvenWanted) {
            survey(graph);
            for (int power = 0; power <= VERTEX_LIMIT; power++) {
                sums[power] = 0;
            }
            for (int set = 0; set <= graph.allArcs(); set++) {
                if ((set & mask) == wanted && (!isEvenWanted || isEven(graph, set))) {
                    sums[evens[set]] += (Integer.bitCount(set) & 1) == 0 ? 1 : -1;
                }
            }
        }

        /** Sets of clashing arcs, with signs, leave the proper colorings: an even component has so many colorings. */
        long sumAt(int colorCount) {
            long sum = 0;
            for (int power = VERTEX_LIMIT; power >= 0; power--) {
                sum = sum * colorCount + sums[power];
            }
            return sum;
        }
    }

    /** Colorings one by one, as far as the document lets them be counted so. */
    private static final class Search {
        final int[] colors = new int[VERTEX_LIMIT];
        private int colorCount;
        private int left;

        void begin(int newColorCount) {
            colorCount = newColorCount;
            for (int vertex = 0; vertex < VERTEX_LIMIT; vertex++) {
                colors[vertex] = NONE;
            }
        }

        void spell(Graph graph, int code) {
            int rest = code;
            for (int vertex = 0; vertex < graph.vertices && colorCount > 0; vertex++) {
                colors[vertex] = rest % colorCount;
                rest /= colorCount;
            }
        }

        int completionsOf(Graph graph) {
            System.arraycopy(graph.paint, 0, colors, 0, VERTEX_LIMIT);
            return waysFrom(this, graph, 0);
        }

        int colorIn(Graph graph, int index, int vertex) {
            left = index;
            for (int place = 0; place <= vertex; place++) {
                if (!settle(graph, place)) {
                    return NONE;
                }
            }
            return colors[vertex];
        }

        /** Passes over the colorings of lower colors; false if none is left for what remains of the index. */
        private boolean settle(Graph graph, int vertex) {
            long open = graph.openColors(colors, vertex, colorCount);
            for (int color = 0; color < colorCount; color++) {
                if ((open >> color & 1) != 0) {
                    colors[vertex] = color;
                    int ways = waysFrom(this, graph, vertex + 1);
                    if (left < ways) {
                        return true;
                    }
                    left -= ways;
                }
            }
            return false;
        }

        private int uncolored(Graph graph, int vertex) {
            for (int place = vertex; place < graph.vertices; place++) {
                if (colors[place] == NONE) {
                    return place;
                }
            }
            return NONE;
        }

        /** How many ways there are to color what is not colored from a vertex on; the last one needs no trying. */
        private static int waysFrom(Search search, Graph graph, int vertex) {
            int place = search.uncolored(graph, vertex);
            if (place == NONE) {
                return 1;
            }
            long open = graph.openColors(search.colors, place, search.colorCount);
            if (search.uncolored(graph, place + 1) == NONE) {
                return Long.bitCount(open);
            }
            int found = 0;
            for (int color = 0; color < search.colorCount; color++) {
                if ((open >> color & 1) != 0) {
                    search.colors[place] = color;
                    found += waysFrom(search, graph, place + 1);
                }
            }
            search.colors[place] = NONE;
            return found;
        }
    }

    /** The input buffer and what reads it; the first error stays, and each step behind it is left out. */
    private static final class Reader {
        private static final int MISPLACED = 1;
        private static final int OUT_OF_RANGE = 2;
        private static final int TOO_MANY = 3;
        // Above each limit of the document: longer numbers need not be told apart.
        private static final int HUGE = 1000;
        private final int[] text = new int[TEXT_LIMIT];
        int length;
        int error;
        int errorAt;
        int statement;
        private int at;
        private int wordAt;
        private int value;

        int take(long bytes) {
            int more = 0;
            for (int shift = 56; shift >= 0; shift -= 8) {
                more += (bytes >> shift & 255) == 0 ? 0 : 1;
            }
            if (length + more > TEXT_LIMIT) {
                return FULL;
            }
            for (int shift = 56; shift >= 0; shift -= 8) {
                int sign = (int) (bytes >> shift & 255);
                if (sign != 0 && length < TEXT_LIMIT) {
                    text[length] = sign;
                    length++;
                }
            }
            return length;
        }

        boolean read(Graph into) {
            at = 0;
            statement = 0;
            error = 0;
            if (!readGraph(into)) {
                return false;
            }
            for (int round = 0; round <= TEXT_LIMIT; round++) {
                if (isAtEnd()) {
                    return true;
                }
                if (text[at] != ';') {
                    return fail(MISPLACED, at);
                }
                at++;
                statement++;
                if (!readArcOrMark(into)) {
                    return false;
                }
            }
            return true;
        }

        private boolean readGraph(Graph into) {
            if (!readWord()) {
                return false;
            }
            if (!isWord("graph")) {
                return fail(MISPLACED, wordAt);
            }
            if (!readNumber(1, VERTEX_LIMIT)) {
                return false;
            }
            int vertices = value;
            if (!readNumber(1, MODULUS_LIMIT)) {
                return false;
            }
            into.begin(vertices, value);
            return true;
        }

        private boolean readArcOrMark(Graph into) {
            if (!readWord()) {
                return false;
            }
            if (isWord("arc")) {
                return into.arcs < ARC_LIMIT ? readArc(into) : fail(TOO_MANY, wordAt);
            }
            return isWord("mark") ? readMarks(into) : fail(MISPLACED, wordAt);
        }

        private boolean readArc(Graph into) {
            if (!readNumber(0, into.vertices - 1)) {
                return false;
            }
            int from = value;
            if (!readNumber(0, into.vertices - 1)) {
                return false;
            }
            int to = value;
            if (!readNumber(0, into.modulus - 1)) {
                return false;
            }
            int gain = value;
            value = 1;
            if (isAtDigit() && !readNumber(0, WEIGHT_LIMIT)) {
                return false;
            }
            into.putArc(from, to, gain, value);
            return true;
        }

        private boolean readMarks(Graph into) {
            for (int round = 0; round <= TEXT_LIMIT; round++) {
                if (round > 0 && !isAtDigit()) {
                    return true;
                }
                if (!readNumber(0, into.arcs - 1)) {
                    return false;
                }
                into.marked |= 1 << value;
            }
            return true;
        }

        private boolean readWord() {
            if (isAtEnd() || !isLetter(at)) {
                return fail(MISPLACED, at);
            }
            wordAt = at;
            while (at < length && isLetter(at)) {
                at++;
            }
            return true;
        }

        private boolean readNumber(int least, int most) {
            if (!isAtDigit()) {
                return fail(MISPLACED, at);
            }
            int start = at;
            value = 0;
            while (at < length && isDigit(at)) {
                value = Math.min(value * 10 + text[at] - '0', HUGE);
                at++;
            }
            return value >= least && value <= most || fail(OUT_OF_RANGE, start);
        }

        private boolean isWord(String word) {
            if (at - wordAt != word.length()) {
                return false;
            }
            for (int k = 0; k < word.length(); k++) {
                if (text[wordAt + k] != word.charAt(k)) {
                    return false;
                }
            }
            return true;
        }

        private boolean isAtEnd() {
            while (at < length && text[at] == ' ') {
                at++;
            }
            return at >= length;
        }

        private boolean isAtDigit() {
            return !isAtEnd() && isDigit(at);
        }

        private boolean isLetter(int place) {
            return text[place] >= 'a' && text[place] <= 'z';
        }

        private boolean isDigit(int place) {
            return text[place] >= '0' && text[place] <= '9';
        }

        private boolean fail(int kind, int place) {
            error = kind;
            errorAt = place;
            return false;
        }
    }
}
