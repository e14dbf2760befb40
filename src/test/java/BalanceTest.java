/** Promises 10 to 15: components, balance, potentials and walks. */
public final class BalanceTest {
    private static final Check CHECK = new Check();

    public static void main(String[] args) {
        parts();
        potentials();
        badSets();
        walks();
        CHECK.finish();
    }

    /** 0-1-2 with a triangle that closes (arcs 0, 1, 2), 3-4 twice with gains that differ (3, 4), loops at 5 (5, 6). */
    private static GainGraphs sample() {
        return Check.of("graph 7 5;arc 0 1 2;arc 1 2 4;arc 0 2 1;arc 4 3 1;arc 4 3 3;arc 5 5 0;arc 5 5 2");
    }

    private static void parts() {
        GainGraphs x = sample();
        components(x, 0, 7);
        components(x, 1, 6);
        components(x, 7, 5);
        components(x, 127, 4);
        components(x, 96, 7);
        componentOf(x, 0, 6, 6);
        componentOf(x, 6, 1, 0);
        componentOf(x, 2, 2, 1);
        componentOf(x, 8, 4, 3);
        componentOf(x, 127, 6, 6);
        balanced(x, 0, true);
        balanced(x, 7, true);
        balanced(x, 15, true);
        balanced(x, 24, false);
        balanced(x, 32, true);
        balanced(x, 64, false);
        balanced(x, 127, false);
        balancedAt(x, 127, 1, true);
        balancedAt(x, 127, 3, false);
        balancedAt(x, 127, 4, false);
        balancedAt(x, 127, 5, false);
        balancedAt(x, 127, 6, true);
        balancedAt(x, 63, 5, true);
        x.setGain(2, 2);
        balanced(x, 7, false);
        balancedAt(x, 7, 0, false);
        balancedAt(x, 7, 3, true);
        GainGraphs y = Check.of("graph 4 2;arc 0 0 1;arc 2 3 0;arc 3 2 1;arc 1 2 0;arc 0 1 1");
        balancedAt(y, 9, 1, true);
        balancedAt(y, 25, 2, false);
        balancedAt(y, 25, 3, true);
        balancedAt(y, 14, 1, false);
        balancedAt(y, 14, 0, true);
        balancedAt(y, 24, 3, true);
    }

    private static void components(GainGraphs x, int set, int due) {
        CHECK.due("10: components(" + set + ")", due, () -> x.components(set));
    }

    private static void componentOf(GainGraphs x, int set, int vertex, int due) {
        CHECK.due("11: componentOf(" + set + ", " + vertex + ")", due, () -> x.componentOf(set, vertex));
    }

    private static void balanced(GainGraphs x, int set, boolean due) {
        CHECK.due("12: isBalanced(" + set + ")", due, () -> x.isBalanced(set));
    }

    private static void balancedAt(GainGraphs x, int set, int vertex, boolean due) {
        CHECK.due("13: isBalancedAt(" + set + ", " + vertex + ")", due, () -> x.isBalancedAt(set, vertex));
    }

    private static void potentials() {
        GainGraphs x = sample();
        potential(x, 7, 0, 0);
        potential(x, 7, 1, 2);
        potential(x, 7, 2, 1);
        potential(x, 2, 1, 0);
        potential(x, 2, 2, 4);
        potential(x, 8, 3, 0);
        potential(x, 8, 4, 4);
        potential(x, 16, 4, 2);
        potential(x, 24, 3, -1);
        potential(x, 24, 4, -1);
        potential(x, 24, 2, 0);
        potential(x, 64, 5, -1);
        potential(x, 32, 5, 0);
        GainGraphs y = Check.of("graph 5 12;arc 4 3 5;arc 2 1 7;arc 3 1 11;arc 0 2 1");
        potential(y, 15, 1, 8);
        potential(y, 15, 3, 9);
        potential(y, 15, 4, 4);
        potential(y, 7, 1, 0);
        potential(y, 7, 2, 5);
        potential(y, 7, 4, 8);
    }

    private static void potential(GainGraphs x, int set, int vertex, int due) {
        CHECK.due("14: potential(" + set + ", " + vertex + ")", due, () -> x.potential(set, vertex));
    }

    private static void badSets() {
        GainGraphs x = sample();
        for (int set : new int[] {-1, 128, 1 << 12, Integer.MIN_VALUE, Integer.MAX_VALUE}) {
            CHECK.refused("10: components(" + set + ")", Check.ARGUMENT, () -> x.components(set));
            CHECK.refused("11: componentOf(" + set + ", 0)", Check.ARGUMENT, () -> x.componentOf(set, 0));
            CHECK.refused("12: isBalanced(" + set + ")", Check.ARGUMENT, () -> x.isBalanced(set));
            CHECK.refused("13: isBalancedAt(" + set + ", 0)", Check.ARGUMENT, () -> x.isBalancedAt(set, 0));
            CHECK.refused("14: potential(" + set + ", 0)", Check.ARGUMENT, () -> x.potential(set, 0));
        }
        for (int vertex : new int[] {-1, 7, 8, Integer.MIN_VALUE, Integer.MAX_VALUE}) {
            for (int set : new int[] {0, 128}) {
                CHECK.refused("11: componentOf(" + set + ", " + vertex + ")", Check.INDEX, () -> x.componentOf(set, vertex));
                CHECK.refused("13: isBalancedAt(" + set + ", " + vertex + ")", Check.INDEX, () -> x.isBalancedAt(set, vertex));
                CHECK.refused("14: potential(" + set + ", " + vertex + ")", Check.INDEX, () -> x.potential(set, vertex));
            }
        }
    }

    private static void walks() {
        GainGraphs x = sample();
        walk(x, 0, -1, -1, -1, 0);
        walk(x, 0, 0, 1, -1, 1);
        walk(x, 0, 0, 1, 2, 0);
        walk(x, 1, 0, -1, -1, 3);
        walk(x, 2, 1, 0, 2, 0);
        walk(x, 2, 2, 0, 1, 0);
        walk(x, 2, 2, 0, -1, 1);
        walk(x, 0, -1, 0, -1, 2);
        walk(x, 0, -1, -1, 2, 1);
        walk(x, 0, 0, -1, 1, 1);
        walk(x, 0, 0, 2, -1, -1);
        walk(x, 0, 1, -1, -1, -1);
        walk(x, 0, 0, 1, 3, -1);
        walk(x, 5, 6, 6, 6, 1);
        walk(x, 3, 3, 4, -1, 2);
        walk(x, 4, 3, 4, -1, 3);
        walk(x, 6, -1, -1, -1, 0);
        for (int vertex : new int[] {-1, 7, Integer.MAX_VALUE}) {
            CHECK.refused("15: walk from " + vertex, Check.INDEX, () -> x.walk(vertex, -1, -1, -1));
        }
        for (int arc : new int[] {-2, 7, 12, Integer.MIN_VALUE}) {
            CHECK.refused("15: first " + arc, Check.INDEX, () -> x.walk(0, arc, -1, -1));
            CHECK.refused("15: second " + arc, Check.INDEX, () -> x.walk(0, 3, arc, -1));
            CHECK.refused("15: third " + arc, Check.INDEX, () -> x.walk(0, 3, -1, arc));
        }
    }

    private static void walk(GainGraphs x, int vertex, int first, int second, int third, int due) {
        String call = "15: walk(" + vertex + ", " + first + ", " + second + ", " + third + ")";
        CHECK.due(call, due, () -> x.walk(vertex, first, second, third));
    }
}
