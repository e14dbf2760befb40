/** Promises 10 to 15 at their edges. */
final class BalanceBounds extends Bounds {
    /** A ring of eight that closes with gain 0 (arcs 0 to 7), an odd loop at 7 (8), a balanced one at 0 (9). */
    private static final String RING = "graph 8 12;arc 0 1 1;arc 1 2 2;arc 3 2 9;arc 3 4 11;arc 4 5 0;arc 6 5 6;arc 6 7 7;arc 0 7 6"
            + ";arc 7 7 1;arc 0 0 0";

    @Sentence(at = "10", says = "Returns how many components a set of arcs has;")
    void oneToEightComponents() {
        GainGraphs x = of(RING);
        is(8, () -> x.components(0));
        is(8, () -> x.components(256 + 512));
        is(7, () -> x.components(128));
        is(2, () -> x.components(63));
        is(1, () -> x.components(127));
        is(1, () -> x.components(255));
        is(1, () -> x.components(1023));
    }

    @Sentence(at = "10", says = "single vertices count.")
    void singleVertices() {
        is(1, () -> of("graph 1 1").components(0));
        is(1, () -> of("graph 1 1;arc 0 0 0").components(1));
        is(7, () -> of("graph 8 1;arc 3 4 0").components(1));
        is(3, () -> after("graph 2 1", GainGraphs::addVertex).components(0));
    }

    @Sentence(at = "10", says = "Throws `IllegalArgumentException` if it is no set of arcs (the empty one is)")
    void noSet() {
        takesSets(GainGraphs::components);
    }

    @Sentence(at = "11", says = "Returns the component of a set in which a vertex is.")
    void theComponent() {
        GainGraphs x = of(RING);
        row(x, (y, v) -> y.componentOf(0, v), 0, 1, 2, 3, 4, 5, 6, 7);
        row(x, (y, v) -> y.componentOf(255, v), 0, 0, 0, 0, 0, 0, 0, 0);
        row(x, (y, v) -> y.componentOf(128 + 2 + 16, v), 0, 1, 1, 3, 4, 4, 6, 0);
    }

    @Sentence(at = "11", says = "Returns the lowest vertex of the component.")
    void theLowestVertex() {
        GainGraphs x = of("graph 8 2;arc 7 6 0;arc 6 5 0;arc 7 2 1;arc 4 3 0;arc 3 7 0");
        row(x, (y, v) -> y.componentOf(3, v), 0, 1, 2, 3, 4, 5, 5, 5);
        row(x, (y, v) -> y.componentOf(7, v), 0, 1, 2, 3, 4, 2, 2, 2);
        row(x, (y, v) -> y.componentOf(11, v), 0, 1, 2, 3, 3, 5, 5, 5);
        row(x, (y, v) -> y.componentOf(31, v), 0, 1, 2, 2, 2, 2, 2, 2);
        is(0, () -> of("graph 1 1;arc 0 0 0").componentOf(1, 0));
    }

    @Sentence(at = "11", says = "Throws `IndexOutOfBoundsException` if there is no such vertex")
    void noVertexOfAComponent() {
        takesVertices((x, vertex) -> x.componentOf(0, vertex));
        index(of(THREE), x -> x.componentOf(8, 3));
    }

    @Sentence(at = "11", says = "Throws `IllegalArgumentException` if it is no set of arcs (the empty one is)")
    void noSetOfAComponent() {
        takesSets((x, set) -> x.componentOf(set, 0));
    }

    @Sentence(at = "12", says = "Tells whether a set is balanced.")
    void balancedSets() {
        GainGraphs x = of(RING);
        is(true, () -> x.isBalanced(0));
        is(true, () -> x.isBalanced(255));
        is(true, () -> x.isBalanced(255 + 512));
        is(false, () -> x.isBalanced(255 + 256));
        is(false, () -> x.isBalanced(256));
        is(true, () -> of("graph 1 1").isBalanced(0));
        x.setGain(7, 7);
        is(false, () -> x.isBalanced(255));
        is(true, () -> x.isBalanced(254));
    }

    @Sentence(at = "12", says = "Throws `IllegalArgumentException` if it is no set of arcs (the empty one is)")
    void noSetToBalance() {
        takesSets((x, set) -> one(x.isBalanced(set)));
    }

    @Sentence(at = "13", says = "Tells whether the component of a set in which a vertex is is balanced.")
    void balancedComponents() {
        GainGraphs x = of(RING);
        row(x, (y, v) -> one(y.isBalancedAt(0, v)), 1, 1, 1, 1, 1, 1, 1, 1);
        row(x, (y, v) -> one(y.isBalancedAt(256, v)), 1, 1, 1, 1, 1, 1, 1, 0);
        row(x, (y, v) -> one(y.isBalancedAt(256 + 63, v)), 1, 1, 1, 1, 1, 1, 1, 0);
        row(x, (y, v) -> one(y.isBalancedAt(256 + 64, v)), 1, 1, 1, 1, 1, 1, 0, 0);
        row(x, (y, v) -> one(y.isBalancedAt(511, v)), 0, 0, 0, 0, 0, 0, 0, 0);
        row(x, (y, v) -> one(y.isBalancedAt(255, v)), 1, 1, 1, 1, 1, 1, 1, 1);
    }

    @Sentence(at = "13", says = "Throws `IndexOutOfBoundsException` if there is no such vertex")
    void noVertexToBalanceAt() {
        takesVertices((x, vertex) -> one(x.isBalancedAt(0, vertex)));
        index(of(THREE), x -> one(x.isBalancedAt(8, 3)));
    }

    @Sentence(at = "13", says = "Throws `IllegalArgumentException` if it is no set of arcs (the empty one is)")
    void noSetToBalanceAt() {
        takesSets((x, set) -> one(x.isBalancedAt(set, 0)));
    }

    @Sentence(at = "14", says = "Returns the potential of a vertex, if that of the lowest vertex of its component is 0 (section 2).")
    void theLowestVertexHasNone() {
        GainGraphs x = of(RING);
        row(x, (y, v) -> y.potential(255, v), 0, 1, 3, 6, 5, 5, 11, 6);
        row(x, (y, v) -> y.potential(0, v), 0, 0, 0, 0, 0, 0, 0, 0);
        row(x, (y, v) -> y.potential(4, v), 0, 0, 0, 3, 0, 0, 0, 0);
        row(x, (y, v) -> y.potential(8 + 4, v), 0, 0, 0, 3, 2, 0, 0, 0);
        row(x, (y, v) -> y.potential(128, v), 0, 0, 0, 0, 0, 0, 0, 6);
        is(0, () -> of("graph 1 1").potential(0, 0));
    }

    @Sentence(at = "14", says = "Returns 0 to M - 1;")
    void potentialsGoRound() {
        GainGraphs x = of("graph 4 12;arc 0 1 11;arc 1 2 1;arc 3 2 1");
        row(x, (y, v) -> y.potential(7, v), 0, 11, 0, 11);
        row(x, (y, v) -> y.potential(4, v), 0, 0, 0, 11);
        is(0, () -> of("graph 2 1;arc 0 1 0").potential(1, 1));
    }

    @Sentence(at = "14", says = "NONE if its component is not balanced.")
    void noPotential() {
        GainGraphs x = of(RING);
        row(x, (y, v) -> y.potential(256, v), 0, 0, 0, 0, 0, 0, 0, NONE);
        row(x, (y, v) -> y.potential(256 + 128, v), NONE, 0, 0, 0, 0, 0, 0, NONE);
        row(x, (y, v) -> y.potential(1023, v), NONE, NONE, NONE, NONE, NONE, NONE, NONE, NONE);
    }

    @Sentence(at = "14", says = "Throws `IndexOutOfBoundsException` if there is no such vertex")
    void noVertexOfAPotential() {
        takesVertices((x, vertex) -> x.potential(0, vertex));
        index(of(THREE), x -> x.potential(8, 3));
    }

    @Sentence(at = "14", says = "Throws `IllegalArgumentException` if it is no set of arcs (the empty one is)")
    void noSetOfAPotential() {
        takesSets((x, set) -> x.potential(set, 0));
    }

    // Promise 15.

    @Sentence(at = "15", says = "Returns the gain of a walk: it begins at a vertex and goes along up to three arcs, each of them forward if it"
            + " begins where the walk is, otherwise backward if it ends there (then its gain counts negatively).")
    void walks() {
        GainGraphs x = of(RING);
        is(0, () -> x.walk(7, NONE, NONE, NONE));
        is(1, () -> x.walk(0, 0, NONE, NONE));
        is(3, () -> x.walk(0, 0, 1, NONE));
        is(6, () -> x.walk(0, 0, 1, 2));
        is(11, () -> x.walk(1, 0, NONE, NONE));
        is(6, () -> x.walk(3, 2, 1, 0));
        is(1, () -> x.walk(0, 0, 0, 0));
        is(3, () -> x.walk(7, 8, 8, 8));
        is(0, () -> x.walk(0, 9, 9, 9));
        GainGraphs back = of("graph 2 12;arc 0 1 5;arc 1 0 5");
        is(10, () -> back.walk(0, 0, 1, NONE));
        is(2, () -> back.walk(0, 1, 0, NONE));
        is(3, () -> back.walk(0, 0, 1, 0));
    }

    @Sentence(at = "15", says = "- `first`: an arc, or NONE to go along none")
    void noFirstArc() {
        GainGraphs x = of(RING);
        is(0, () -> x.walk(0, NONE, NONE, NONE));
        is(3, () -> x.walk(0, NONE, 0, 1));
        is(2, () -> x.walk(1, NONE, NONE, 1));
    }

    @Sentence(at = "15", says = "- `second`: an arc, or NONE likewise")
    void noSecondArc() {
        GainGraphs x = of(RING);
        is(3, () -> x.walk(0, 0, NONE, 1));
        is(NONE, () -> x.walk(0, 0, NONE, 2));
        is(1, () -> x.walk(0, 0, NONE, NONE));
    }

    @Sentence(at = "15", says = "- `third`: an arc, or NONE likewise")
    void noThirdArc() {
        GainGraphs x = of(RING);
        is(3, () -> x.walk(0, 0, 1, NONE));
        is(2, () -> x.walk(1, NONE, 1, NONE));
    }

    @Sentence(at = "15", says = "Returns 0 to M - 1;")
    void gainsOfWalksGoRound() {
        GainGraphs x = of("graph 2 12;arc 0 0 11;arc 0 1 1;arc 0 1 11");
        is(9, () -> x.walk(0, 0, 0, 0));
        is(11, () -> x.walk(1, 1, NONE, NONE));
        is(1, () -> x.walk(1, 2, NONE, NONE));
        is(0, () -> x.walk(0, 1, 1, NONE));
        is(0, () -> of("graph 1 1;arc 0 0 0").walk(0, 0, 0, 0));
    }

    @Sentence(at = "15", says = "NONE if an arc neither begins nor ends where the walk is.")
    void noWalk() {
        GainGraphs x = of(RING);
        is(NONE, () -> x.walk(2, 0, NONE, NONE));
        is(NONE, () -> x.walk(0, 1, 0, NONE));
        is(NONE, () -> x.walk(0, 0, 2, NONE));
        is(NONE, () -> x.walk(0, 0, 1, 0));
        is(NONE, () -> x.walk(0, 0, 1, 8));
        is(NONE, () -> x.walk(0, NONE, NONE, 8));
    }

    @Sentence(at = "15", says = "Throws `IndexOutOfBoundsException` if there is no such vertex or arc")
    void noVertexOrArcOfAWalk() {
        takesVertices((x, vertex) -> x.walk(vertex, NONE, NONE, NONE));
        int[] bad = {-2, 3, 12, Integer.MIN_VALUE, Integer.MAX_VALUE};
        // The walk cannot go along the arc before it, or there is no arc before it: the number is looked at in any case.
        refuses(Check.INDEX, bad, () -> of(THREE), (x, arc) -> x.walk(0, arc, NONE, NONE));
        refuses(Check.INDEX, bad, () -> of(THREE), (x, arc) -> x.walk(0, 1, arc, NONE));
        refuses(Check.INDEX, bad, () -> of(THREE), (x, arc) -> x.walk(0, NONE, 1, arc));
        refuses(Check.INDEX, new int[] {0, -2}, GainGraphs::new, (x, arc) -> x.walk(0, NONE, arc, NONE));
        is(3, () -> of(THREE).walk(0, 2, NONE, NONE));
        is(11, () -> of(TWELVE).walk(1, 11, NONE, NONE));
    }
}
