/** Promises 16 to 29: ranks, closures, circuits, cycles, bases, flats. */
public final class RankTest {
    private static final Check CHECK = new Check();

    /** Vertices 0, 1: an arc of gain 0, one of gain 1, a loop of gain 1 at each: any two of the four are a basis. */
    private static final String FOUR = "graph 2 2;arc 0 1 0 4;arc 0 1 1 3;arc 0 0 1 3;arc 1 1 1 9";
    /** A triangle without gains. */
    private static final String TRIANGLE = "graph 3 1;arc 0 1 0;arc 1 2 0;arc 2 0 0";
    /** Five vertices: a closed triangle (0, 1, 2), a second arc beside 0 (3), 2-3 (4), loops at 3 (5: gain 0, 6, 7). */
    private static final String MIXED = "graph 5 5;arc 0 1 1 7;arc 1 2 2 7;arc 0 2 3 7;arc 1 0 1 2;arc 2 3 0 0"
            + ";arc 3 3 0 1;arc 3 3 2 99;arc 3 3 3 5";

    public static void main(String[] args) {
        ranks();
        closures();
        kinds();
        kindsOfLargerOnes();
        counts();
        bestSets();
        badNumbers();
        noArcs();
        against(new Naive(), "graph 8 12;arc 0 1 1;arc 1 2 2;arc 2 0 9;arc 3 4 5;arc 4 5 6;arc 5 3 2;arc 6 7 3;arc 7 6 8;"
                + "arc 0 3 0;arc 4 7 11;arc 6 6 0;arc 2 2 4");
        against(new Naive(), "graph 4 3;arc 0 1 0 5;arc 0 1 1 4;arc 0 1 2 4;arc 1 2 0;arc 2 1 1;arc 2 3 2;arc 3 0 1;"
                + "arc 3 3 1 0;arc 1 3 0;arc 0 2 2;arc 2 2 0;arc 3 1 2");
        CHECK.finish();
    }

    private static void ranks() {
        GainGraphs x = Check.of(MIXED);
        int[][] due = {{0, 0}, {1, 1}, {7, 2}, {3, 2}, {9, 2}, {15, 3}, {16, 1}, {32, 0}, {64, 1}, {192, 1}, {88, 3}, {255, 4}, {223, 4}};
        for (int[] pair : due) {
            CHECK.due("16: rank(" + pair[0] + ")", pair[1], () -> x.rank(pair[0]));
        }
        boolean[] free = {true, true, false, true, true, false, true, false, true, false, true, false, false};
        for (int k = 0; k < due.length; k++) {
            int set = due[k][0];
            CHECK.due("20: isIndependent(" + set + ")", free[k], () -> x.isIndependent(set));
        }
    }

    private static void closures() {
        GainGraphs x = Check.of(MIXED);
        closure(x, 0, 32, 32);
        closure(x, 1, 33, 33);
        closure(x, 3, 39, 39);
        closure(x, 9, 41, 32);
        closure(x, 64, 224, 0);
        closure(x, 65, 225, 1);
        closure(x, 16, 48, 48);
        closure(x, 80, 240, 0);
        closure(x, 73, 233, 0);
        closure(x, 255, 255, 0);
        closure(x, 7, 39, 39);
        closure(x, 32, 32, 32);
        flat(x, 0, false);
        flat(x, 32, true);
        flat(x, 39, true);
        flat(x, 7, false);
        flat(x, 233, true);
        flat(x, 255, true);
        flat(x, 96, false);
    }

    private static void closure(GainGraphs x, int set, int due, int dueBalanced) {
        CHECK.due("17: closure(" + set + ")", due, () -> x.closure(set));
        CHECK.due("18: balancedClosure(" + set + ")", dueBalanced, () -> x.balancedClosure(set));
    }

    private static void flat(GainGraphs x, int set, boolean due) {
        CHECK.due("19: isFlat(" + set + ")", due, () -> x.isFlat(set));
    }

    private static void kinds() {
        GainGraphs x = Check.of(MIXED);
        kind(x, 0, -1);
        kind(x, 1, -1);
        kind(x, 7, 1);
        kind(x, 32, 1);
        kind(x, 64, -1);
        kind(x, 192, 3);
        kind(x, 224, -1);
        kind(x, 15, -1);
        kind(x, 39, -1);
        kind(x, 9, -1);
        kind(x, 14, -1);
        kind(x, 90, -1);
        GainGraphs y = Check.of(FOUR);
        kind(y, 7, 3);
        kind(y, 11, 3);
        kind(y, 13, 4);
        kind(y, 14, 4);
        kind(y, 12, -1);
        kind(y, 15, -1);
        GainGraphs z = Check.of("graph 2 3;arc 0 1 0;arc 1 0 2;arc 0 1 2;arc 0 1 2");
        kind(z, 7, 2);
        kind(z, 12, 1);
        kind(z, 15, -1);
        kind(z, 13, -1);
        kind(z, 3, -1);
    }

    private static void kindsOfLargerOnes() {
        // A square with gains 0 and a way across of two arcs, the second of which has a gain.
        GainGraphs x = Check.of("graph 5 4;arc 0 1 0;arc 1 2 0;arc 2 3 0;arc 3 0 1;arc 0 4 0;arc 4 2 2");
        kind(x, 63, 2);
        kind(x, 15, -1);
        x.setGain(5, 0);
        kind(x, 63, -1);
        kind(x, 51, 1);
        // Two triangles that share a vertex, then two that a way of two arcs joins.
        GainGraphs y = Check.of("graph 5 4;arc 0 1 0;arc 1 2 0;arc 2 0 1;arc 2 3 0;arc 3 4 0;arc 4 2 3");
        kind(y, 63, 3);
        kind(y, 7, -1);
        GainGraphs z = Check.of("graph 7 4;arc 0 1 0;arc 1 2 0;arc 2 0 1;arc 2 6 3;arc 6 3 1;arc 3 4 0;arc 4 5 0;arc 5 3 1");
        kind(z, 255, 4);
        kind(z, 247, -1);
        z.setGain(7, 0);
        kind(z, 255, -1);
        kind(z, 224, 1);
    }

    private static void kind(GainGraphs x, int set, int due) {
        CHECK.due("21: circuitKind(" + set + ")", due, () -> x.circuitKind(set));
    }

    private static void counts() {
        GainGraphs four = Check.of(FOUR);
        counted(four, "22: circuits", new int[] {0, 0, 4, 0, 0}, four::circuits);
        counted(four, "23: cycles, odd", new int[] {2, 1, 0, 0, 0}, k -> four.cycles(k, false));
        counted(four, "23: cycles, even", new int[] {0, 0, 0, 0, 0}, k -> four.cycles(k, true));
        CHECK.due("24: bases", 6, four::bases);
        counted(four, "25: flats", new int[] {4, 1, 0, 0}, four::flats);
        CHECK.due("25: flats(0)", 1, () -> four.flats(0));
        GainGraphs triangle = Check.of(TRIANGLE);
        counted(triangle, "22: circuits", new int[] {0, 0, 1, 0}, triangle::circuits);
        counted(triangle, "23: cycles, even", new int[] {0, 0, 1, 0}, k -> triangle.cycles(k, true));
        CHECK.due("24: bases", 3, triangle::bases);
        counted(triangle, "25: flats", new int[] {3, 1, 0, 0, 0, 0, 0, 0}, triangle::flats);
        GainGraphs mixed = Check.of(MIXED);
        counted(mixed, "23: cycles, even", new int[] {1, 0, 1, 0, 0, 0, 0, 0, 0, 0, 0, 0}, k -> mixed.cycles(k, true));
        counted(mixed, "23: cycles, odd", new int[] {2, 1, 1, 0, 0, 0, 0, 0, 0, 0, 0, 0}, k -> mixed.cycles(k, false));
        // Two triangles with no vertex in common are no cycle, though each vertex has two ends.
        GainGraphs two = Check.of("graph 6 2;arc 0 1 0;arc 1 2 0;arc 2 0 0;arc 3 4 0;arc 4 5 1;arc 5 3 0");
        counted(two, "23: cycles, even", new int[] {0, 0, 1, 0, 0, 0}, k -> two.cycles(k, true));
        counted(two, "23: cycles, odd", new int[] {0, 0, 1, 0, 0, 0}, k -> two.cycles(k, false));
        CHECK.due("24: bases, one of each way", 3, two::bases);
    }

    private interface Counted {
        int at(int k);
    }

    private static void counted(GainGraphs x, String call, int[] due, Counted counted) {
        for (int k = 1; k <= due.length; k++) {
            int at = k;
            CHECK.due(call + "(" + k + ") of " + x.count(2) + " arcs", due[k - 1], () -> counted.at(at));
        }
    }

    private static void bestSets() {
        GainGraphs four = Check.of(FOUR);
        CHECK.due("26: of like weights the lower number", 6, four::leastBasis);
        four.setWeight(3, 0);
        CHECK.due("26: a light one comes first", 10, four::leastBasis);
        GainGraphs mixed = Check.of(MIXED);
        CHECK.due("26: a balanced loop never comes", 16 + 8 + 128 + 1, mixed::leastBasis);
        mixed.setWeight(7, 99);
        CHECK.due("26: weight 99 comes too", 16 + 8 + 1 + 2, mixed::leastBasis);
        CHECK.due("26: the heaviest of all", 3, () -> Check.of("graph 2 2;arc 0 1 0 99;arc 1 1 1 99").leastBasis());
        weight(mixed, 0, 0);
        weight(mixed, 64, 99);
        weight(mixed, 65, 106);
        weight(mixed, 255, 7 + 7 + 7 + 2 + 0 + 1 + 99 + 99);
        for (int arc = 0; arc < 8; arc++) {
            int k = arc;
            CHECK.due("28: isBridge(" + k + ")", false, () -> mixed.isBridge(k));
        }
        mixed.dropArc(7);
        mixed.dropArc(6);
        boolean[] bridges = {false, false, false, true, true, false};
        for (int arc = 0; arc < 6; arc++) {
            int k = arc;
            CHECK.due("28: without odd loops, isBridge(" + k + ")", bridges[k], () -> mixed.isBridge(k));
        }
        CHECK.due("29: balanced already", 0, () -> Check.of(TRIANGLE).frustration());
        CHECK.due("29: loops and one of two", 13, four::frustration);
        CHECK.due("29: the fewest", 8, mixed::frustration);
        CHECK.due("29: the least number of several", 1,
                () -> Check.of("graph 3 3;arc 0 1 0;arc 1 2 1;arc 2 0 1").frustration());
        CHECK.due("29: fewer, though of a greater number", 4,
                () -> Check.of("graph 2 3;arc 0 1 0;arc 0 1 0;arc 0 1 1").frustration());
    }

    private static void weight(GainGraphs x, int set, int due) {
        CHECK.due("27: weight(" + set + ")", due, () -> x.weight(set));
    }

    private static void badNumbers() {
        GainGraphs x = Check.of(FOUR);
        for (int set : new int[] {-1, 16, Integer.MIN_VALUE, Integer.MAX_VALUE}) {
            CHECK.refused("16: rank(" + set + ")", Check.ARGUMENT, () -> x.rank(set));
            CHECK.refused("17: closure(" + set + ")", Check.ARGUMENT, () -> x.closure(set));
            CHECK.refused("18: balancedClosure(" + set + ")", Check.ARGUMENT, () -> x.balancedClosure(set));
            CHECK.refused("19: isFlat(" + set + ")", Check.ARGUMENT, () -> x.isFlat(set));
            CHECK.refused("20: isIndependent(" + set + ")", Check.ARGUMENT, () -> x.isIndependent(set));
            CHECK.refused("21: circuitKind(" + set + ")", Check.ARGUMENT, () -> x.circuitKind(set));
            CHECK.refused("27: weight(" + set + ")", Check.ARGUMENT, () -> x.weight(set));
        }
        for (int number : new int[] {-1, 0, 13, Integer.MAX_VALUE}) {
            CHECK.refused("22: circuits(" + number + ")", Check.ARGUMENT, () -> x.circuits(number));
            CHECK.refused("23: cycles(" + number + ", true)", Check.ARGUMENT, () -> x.cycles(number, true));
            CHECK.refused("23: cycles(" + number + ", false)", Check.ARGUMENT, () -> x.cycles(number, false));
        }
        CHECK.due("22: circuits(12)", 0, () -> x.circuits(12));
        CHECK.due("23: cycles(12, true)", 0, () -> x.cycles(12, true));
        CHECK.due("25: flats(8)", 0, () -> x.flats(8));
        CHECK.refused("25: flats(9)", Check.ARGUMENT, () -> x.flats(9));
        CHECK.refused("25: flats(-1)", Check.ARGUMENT, () -> x.flats(-1));
        for (int arc : new int[] {-1, 4, 12, Integer.MIN_VALUE}) {
            CHECK.refused("28: isBridge(" + arc + ")", Check.INDEX, () -> x.isBridge(arc));
        }
    }

    private static void noArcs() {
        GainGraphs x = Check.of("graph 8 12");
        CHECK.due("16: rank", 0, () -> x.rank(0));
        CHECK.due("17: closure", 0, () -> x.closure(0));
        CHECK.due("19: isFlat", true, () -> x.isFlat(0));
        CHECK.due("20: isIndependent", true, () -> x.isIndependent(0));
        CHECK.due("21: circuitKind", -1, () -> x.circuitKind(0));
        CHECK.due("24: bases", 1, x::bases);
        CHECK.due("25: flats(0)", 1, () -> x.flats(0));
        CHECK.due("25: flats(1)", 0, () -> x.flats(1));
        CHECK.due("26: leastBasis", 0, x::leastBasis);
        CHECK.due("29: frustration", 0, x::frustration);
    }

    /** All sets of a large graph, first without and then with a survey of them all. */
    private static void against(Naive naive, String text) {
        GainGraphs x = Check.of(text);
        for (int start = 0; start < text.length(); start++) {
            naive.append(text.charAt(start));
        }
        naive.load();
        for (int round = 0; round < 2; round++) {
            for (int set = round; set < 4096; set += 7) {
                int s = set;
                CHECK.due("16: rank(" + s + ")", naive.rank(s), () -> x.rank(s));
                CHECK.due("17: closure(" + s + ")", naive.closure(s), () -> x.closure(s));
                CHECK.due("18: balancedClosure(" + s + ")", naive.balancedClosure(s), () -> x.balancedClosure(s));
                CHECK.due("20: isIndependent(" + s + ")", naive.isIndependent(s), () -> x.isIndependent(s));
                CHECK.due("12: isBalanced(" + s + ")", naive.isBalanced(s), () -> x.isBalanced(s));
                CHECK.due("10: components(" + s + ")", naive.components(s), () -> x.components(s));
            }
            x.saveSnapshot(0);
            CHECK.due("24: bases", naive.bases(), x::bases);
        }
        for (int set = 0; set < 4096; set++) {
            int s = set;
            CHECK.due("21: circuitKind(" + s + ")", naive.circuitKind(s), () -> x.circuitKind(s));
        }
        for (int number = 1; number <= 8; number++) {
            int k = number;
            CHECK.due("22: circuits(" + k + ")", naive.circuits(k), () -> x.circuits(k));
            CHECK.due("23: cycles(" + k + ", true)", naive.cycles(k, true), () -> x.cycles(k, true));
            CHECK.due("23: cycles(" + k + ", false)", naive.cycles(k, false), () -> x.cycles(k, false));
            CHECK.due("25: flats(" + k + ")", naive.flats(k), () -> x.flats(k));
        }
        CHECK.due("26: leastBasis", naive.leastBasis(), x::leastBasis);
        CHECK.due("29: frustration", naive.frustration(), x::frustration);
    }
}
