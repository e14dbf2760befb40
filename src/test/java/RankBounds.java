/** Promises 16 to 29 at their edges. */
final class RankBounds extends Bounds {
    private static final String NO_SET = "Throws `IllegalArgumentException` if it is no set of arcs (the empty one is)";
    private static final String NO_SIZE = "Throws `IllegalArgumentException` if arcs is out of range";
    /** An odd loop at each of eight vertices: every set is independent, every set a flat. */
    private static final String EIGHT = "graph 8 2;arc 0 0 1;arc 1 1 1;arc 2 2 1;arc 3 3 1;arc 4 4 1;arc 5 5 1;arc 6 6 1;arc 7 7 1";
    /** Twelve arcs between two vertices, one of each gain: any two are a basis, any three a circuit. */
    private static final String FAN = "graph 2 12;arc 0 1 0;arc 0 1 1;arc 0 1 2;arc 0 1 3;arc 0 1 4;arc 0 1 5;arc 0 1 6;arc 0 1 7"
            + ";arc 0 1 8;arc 0 1 9;arc 0 1 10;arc 0 1 11";
    /** A way of seven arcs along all vertices and an odd loop at each end: the largest circuit that there can be. */
    private static final String LONGEST = "graph 8 2;arc 0 0 1;arc 0 1 0;arc 1 2 1;arc 2 3 0;arc 3 4 1;arc 4 5 0;arc 5 6 1;arc 6 7 0;arc 7 7 1";

    private static String twelve(String start, String arc) {
        return start + (";" + arc).repeat(12);
    }

    @Sentence(at = "16", says = "Returns the rank of a set (section 3).")
    void ranks() {
        row(of(EIGHT), GainGraphs::rank, 0, 1, 1, 2, 1, 2, 2, 3);
        is(8, () -> of(EIGHT).rank(255));
        is(8, () -> of(LONGEST).rank(511));
        is(7, () -> of(LONGEST).rank(254));
        is(8, () -> of(LONGEST).rank(255));
        is(2, () -> of(FAN).rank(4095));
        is(1, () -> of(FAN).rank(2048));
        is(0, () -> of(twelve("graph 8 12", "arc 7 7 0")).rank(4095));
        is(1, () -> of(twelve("graph 8 12", "arc 7 7 11")).rank(4095));
        is(0, () -> of("graph 1 1").rank(0));
    }

    @Sentence(at = "16", says = NO_SET)
    void noSetWithARank() {
        takesSets(GainGraphs::rank);
    }

    @Sentence(at = "17", says = "Returns the closure of a set (section 3).")
    void closures() {
        row(of(EIGHT), GainGraphs::closure, 0, 1, 2, 3, 4, 5, 6, 7);
        row(of(FAN), GainGraphs::closure, 0, 1, 2, 4095, 4, 4095);
        is(4095, () -> of(FAN).closure(4095));
        is(2048, () -> of(FAN).closure(2048));
        is(4095, () -> of(twelve("graph 8 12", "arc 7 7 0")).closure(0));
        is(0, () -> of(twelve("graph 8 12", "arc 7 7 6")).closure(0));
        is(4095, () -> of(twelve("graph 8 12", "arc 7 7 6")).closure(2048));
        is(0, () -> of("graph 8 12").closure(0));
    }

    @Sentence(at = "17", says = NO_SET)
    void noSetWithAClosure() {
        takesSets(GainGraphs::closure);
    }

    @Sentence(at = "18", says = "Returns all arcs, of the set or not, whose both ends are in one balanced component of a set,"
            + " and that do not make it unbalanced.")
    void balancedClosures() {
        GainGraphs x = of("graph 3 3;arc 0 1 1;arc 1 0 2;arc 0 1 2;arc 1 1 0;arc 1 1 1;arc 1 2 0;arc 2 2 0");
        // The arcs of an unbalanced component do not come, not even those of the set itself, nor its balanced loops.
        is(8 + 64, () -> x.balancedClosure(0));
        is(1 + 2 + 8 + 64, () -> x.balancedClosure(1));
        is(1 + 2 + 8 + 64, () -> x.balancedClosure(2));
        is(64, () -> x.balancedClosure(1 + 4));
        is(64, () -> x.balancedClosure(16));
        is(0, () -> x.balancedClosure(16 + 32));
        is(0, () -> x.balancedClosure(127));
        is(4 + 8 + 32 + 64, () -> x.balancedClosure(4 + 32));
        is(4095, () -> of(twelve("graph 8 12", "arc 7 7 0")).balancedClosure(0));
        is(4095, () -> of(twelve("graph 8 12", "arc 7 0 5")).balancedClosure(2048));
        is(0, () -> of(twelve("graph 8 12", "arc 7 0 5")).balancedClosure(0));
        is(0, () -> of("graph 1 1").balancedClosure(0));
    }

    @Sentence(at = "18", says = NO_SET)
    void noSetWithABalancedClosure() {
        takesSets(GainGraphs::balancedClosure);
    }

    @Sentence(at = "19", says = "Tells whether a set is its own closure.")
    void flats() {
        row(of(EIGHT), (x, set) -> one(x.isFlat(set)), 1, 1, 1, 1, 1, 1, 1, 1);
        row(of(FAN), (x, set) -> one(x.isFlat(set)), 1, 1, 1, 0, 1, 0, 0, 0);
        is(true, () -> of(FAN).isFlat(4095));
        is(false, () -> of(FAN).isFlat(4094));
        is(false, () -> of(twelve("graph 8 12", "arc 7 7 0")).isFlat(0));
        is(true, () -> of(twelve("graph 8 12", "arc 7 7 0")).isFlat(4095));
        is(true, () -> of("graph 1 1").isFlat(0));
    }

    @Sentence(at = "19", says = NO_SET)
    void noSetThatMayBeFlat() {
        takesSets((x, set) -> one(x.isFlat(set)));
    }

    @Sentence(at = "20", says = "Tells whether a set is independent.")
    void independentSets() {
        row(of(EIGHT), (x, set) -> one(x.isIndependent(set)), 1, 1, 1, 1, 1, 1, 1, 1);
        is(true, () -> of(EIGHT).isIndependent(255));
        row(of(FAN), (x, set) -> one(x.isIndependent(set)), 1, 1, 1, 1, 1, 1, 1, 0);
        is(false, () -> of(LONGEST).isIndependent(511));
        is(true, () -> of(LONGEST).isIndependent(510));
        is(true, () -> of("graph 1 1").isIndependent(0));
        is(false, () -> of("graph 1 1;arc 0 0 0").isIndependent(1));
    }

    @Sentence(at = "20", says = NO_SET)
    void noSetThatMayBeIndependent() {
        takesSets((x, set) -> one(x.isIndependent(set)));
    }

    // Promise 21.

    @Sentence(at = "21", says = "Returns 1 a balanced cycle (a loop with the gain 0, too),")
    void balancedCycles() {
        is(1, () -> of("graph 1 1;arc 0 0 0").circuitKind(1));
        is(1, () -> of("graph 1 12;arc 0 0 0").circuitKind(1));
        is(NONE, () -> of("graph 1 12;arc 0 0 11").circuitKind(1));
        is(1, () -> of("graph 2 3;arc 0 1 1;arc 1 0 2").circuitKind(3));
        is(NONE, () -> of("graph 2 3;arc 0 1 1;arc 1 0 1").circuitKind(3));
        GainGraphs ring = of("graph 8 3;arc 0 1 1;arc 1 2 1;arc 2 3 1;arc 3 4 1;arc 4 5 1;arc 5 6 1;arc 6 7 1;arc 7 0 2");
        is(1, () -> ring.circuitKind(255));
        is(NONE, () -> ring.circuitKind(254));
        ring.setGain(7, 0);
        is(NONE, () -> ring.circuitKind(255));
    }

    @Sentence(at = "21", says = " 2 three ways that join the same two vertices and have nothing else in common,")
    void threeWays() {
        is(2, () -> of("graph 2 3;arc 0 1 0;arc 0 1 1;arc 1 0 1").circuitKind(7));
        is(NONE, () -> of("graph 2 3;arc 0 1 0;arc 0 1 1;arc 1 0 2").circuitKind(7));
        is(2, () -> of("graph 3 3;arc 0 1 0;arc 0 1 1;arc 0 2 2;arc 2 1 0").circuitKind(15));
        // Nine arcs: ways of three arcs each from 0 to 7.
        GainGraphs x = of("graph 8 3;arc 0 1 0;arc 1 2 0;arc 2 7 0;arc 0 3 0;arc 3 4 0;arc 4 7 1;arc 0 5 0;arc 5 6 0;arc 6 7 2");
        is(2, () -> x.circuitKind(511));
        is(NONE, () -> x.circuitKind(510));
        x.setGain(8, 1);
        is(NONE, () -> x.circuitKind(511));
        is(1, () -> x.circuitKind(504));
    }

    @Sentence(at = "21", says = " 3 two unbalanced cycles with one vertex in common,")
    void oneVertexInCommon() {
        is(3, () -> of("graph 1 2;arc 0 0 1;arc 0 0 1").circuitKind(3));
        is(NONE, () -> of("graph 1 2;arc 0 0 1;arc 0 0 0").circuitKind(3));
        is(3, () -> of("graph 2 2;arc 1 1 1;arc 0 1 0;arc 0 1 1").circuitKind(7));
        is(3, () -> of("graph 8 2;arc 7 6 1;arc 6 7 0;arc 7 5 0;arc 5 7 1").circuitKind(15));
        // Nine arcs: a ring of all eight vertices and a loop at the last one.
        GainGraphs x = of("graph 8 2;arc 0 1 1;arc 1 2 0;arc 2 3 0;arc 3 4 0;arc 4 5 0;arc 5 6 0;arc 6 7 0;arc 7 0 0;arc 7 7 1");
        is(3, () -> x.circuitKind(511));
        x.setGain(0, 0);
        is(NONE, () -> x.circuitKind(511));
    }

    @Sentence(at = "21", says = " 4 two unbalanced cycles and a way that joins them;")
    void aWayBetween() {
        is(4, () -> of("graph 2 2;arc 0 0 1;arc 0 1 0;arc 1 1 1").circuitKind(7));
        is(NONE, () -> of("graph 2 2;arc 0 0 1;arc 0 1 0;arc 1 1 1").circuitKind(5));
        is(4, () -> of("graph 2 2;arc 0 1 0;arc 0 0 1;arc 1 1 1").circuitKind(7));
        is(4, () -> of(LONGEST).circuitKind(511));
        is(4, () -> of("graph 4 2;arc 0 1 1;arc 1 0 0;arc 1 2 0;arc 2 3 1;arc 3 2 0").circuitKind(31));
        is(NONE, () -> of("graph 4 2;arc 0 1 1;arc 1 0 0;arc 1 2 0;arc 2 3 1;arc 3 2 1").circuitKind(31));
    }

    @Sentence(at = "21", says = "NONE if the set is no circuit.")
    void noCircuit() {
        is(NONE, () -> of("graph 1 1").circuitKind(0));
        is(NONE, () -> of(TWELVE).circuitKind(0));
        is(NONE, () -> of(TWELVE).circuitKind(4095));
        is(NONE, () -> of(LONGEST).circuitKind(510));
        is(NONE, () -> of(LONGEST).circuitKind(255));
        is(NONE, () -> of("graph 1 1;arc 0 0 0;arc 0 0 0").circuitKind(3));
        is(NONE, () -> of("graph 3 2;arc 0 0 1;arc 1 1 1;arc 2 2 1").circuitKind(7));
        is(NONE, () -> of(FAN).circuitKind(15));
    }

    @Sentence(at = "21", says = NO_SET)
    void noSetWithAKind() {
        takesSets(GainGraphs::circuitKind);
    }

    // Promises 22 and 23.

    @Sentence(at = "22", says = "Returns how many circuits have so many arcs.")
    void countsOfCircuits() {
        row(of("graph 1 1"), (x, k) -> x.circuits(k + 1), 0, 0, 0, 0, 0, 0, 0, 0, 0, 0, 0, 0);
        row(of(twelve("graph 1 1", "arc 0 0 0")), (x, k) -> x.circuits(k + 1), 12, 0, 0, 0, 0, 0, 0, 0, 0, 0, 0, 0);
        row(of(twelve("graph 1 2", "arc 0 0 1")), (x, k) -> x.circuits(k + 1), 0, 66, 0, 0, 0, 0, 0, 0, 0, 0, 0, 0);
        row(of(twelve("graph 2 2", "arc 0 1 1")), (x, k) -> x.circuits(k + 1), 0, 66, 0, 0, 0, 0, 0, 0, 0, 0, 0, 0);
        row(of(FAN), (x, k) -> x.circuits(k + 1), 0, 0, 220, 0, 0, 0, 0, 0, 0, 0, 0, 0);
        row(of(LONGEST), (x, k) -> x.circuits(k + 1), 0, 0, 0, 0, 0, 0, 0, 0, 1, 0, 0, 0);
    }

    @Sentence(at = "22", says = "- `arcs`: 1 to 12")
    void oneToTwelveArcsOfCircuits() {
        is(1, () -> of("graph 1 1;arc 0 0 0").circuits(1));
        is(0, () -> of("graph 1 1;arc 0 0 0").circuits(12));
        is(0, () -> of(TWELVE).circuits(12));
    }

    @Sentence(at = "22", says = NO_SIZE)
    void noSizeOfCircuits() {
        takes(Check.ARGUMENT, 1, 12, GainGraphs::new, GainGraphs::circuits);
        takes(Check.ARGUMENT, 1, 12, () -> of(TWELVE), GainGraphs::circuits);
    }

    @Sentence(at = "23", says = "Returns how many cycles have so many arcs (section 2).")
    void countsOfCycles() {
        row(of("graph 1 1"), (x, k) -> x.cycles(k + 1, true) + x.cycles(k + 1, false), 0, 0, 0, 0, 0, 0, 0, 0, 0, 0, 0, 0);
        row(of(twelve("graph 1 1", "arc 0 0 0")), (x, k) -> x.cycles(k + 1, true), 12, 0, 0, 0, 0, 0, 0, 0, 0, 0, 0, 0);
        row(of(twelve("graph 2 2", "arc 0 1 1")), (x, k) -> x.cycles(k + 1, true), 0, 66, 0, 0, 0, 0, 0, 0, 0, 0, 0, 0);
        row(of(FAN), (x, k) -> x.cycles(k + 1, false), 0, 66, 0, 0, 0, 0, 0, 0, 0, 0, 0, 0);
        row(of(LONGEST), (x, k) -> x.cycles(k + 1, false), 2, 0, 0, 0, 0, 0, 0, 0, 0, 0, 0, 0);
        row(of(TWELVE), (x, k) -> x.cycles(k + 1, true), 1, 1, 0, 0, 0, 0, 0, 2, 0, 0, 0, 0);
    }

    @Sentence(at = "23", says = "- `arcs`: 1 to 12")
    void oneToTwelveArcsOfCycles() {
        is(1, () -> of("graph 1 1;arc 0 0 0").cycles(1, true));
        is(0, () -> of("graph 1 1;arc 0 0 0").cycles(12, true));
        is(0, () -> of(TWELVE).cycles(12, false));
    }

    @Sentence(at = "23", says = "- `balanced`: whether the balanced ones or the others")
    void balancedOrNot() {
        GainGraphs x = of("graph 2 2;arc 0 0 0;arc 1 1 0;arc 1 1 1;arc 0 1 0;arc 0 1 1;arc 1 0 1");
        row(x, (y, k) -> y.cycles(k + 1, true), 2, 1, 0);
        row(x, (y, k) -> y.cycles(k + 1, false), 1, 2, 0);
    }

    @Sentence(at = "23", says = NO_SIZE)
    void noSizeOfCycles() {
        takes(Check.ARGUMENT, 1, 12, () -> of(THREE), (x, size) -> x.cycles(size, true));
        takes(Check.ARGUMENT, 1, 12, () -> of(THREE), (x, size) -> x.cycles(size, false));
    }

    // Promises 24 to 26.

    @Sentence(at = "24", says = "Returns how many bases there are.")
    void countsOfBases() {
        is(1, () -> of("graph 8 12").bases());
        is(1, () -> of(twelve("graph 1 1", "arc 0 0 0")).bases());
        is(12, () -> of(twelve("graph 1 2", "arc 0 0 1")).bases());
        is(12, () -> of(twelve("graph 2 1", "arc 0 1 0")).bases());
        is(66, () -> of(FAN).bases());
        is(1, () -> of(EIGHT).bases());
        is(9, () -> of(LONGEST).bases());
    }

    @Sentence(at = "25", says = "Returns how many flats have a rank.")
    void countsOfFlats() {
        row(of(EIGHT), GainGraphs::flats, 1, 8, 28, 56, 70, 56, 28, 8, 1);
        row(of(FAN), GainGraphs::flats, 1, 12, 1, 0, 0, 0, 0, 0, 0);
        row(of("graph 8 12"), GainGraphs::flats, 1, 0, 0, 0, 0, 0, 0, 0, 0);
        row(of(twelve("graph 1 1", "arc 0 0 0")), GainGraphs::flats, 1, 0, 0, 0, 0, 0, 0, 0, 0);
        row(of(twelve("graph 1 2", "arc 0 0 1")), GainGraphs::flats, 1, 1, 0, 0, 0, 0, 0, 0, 0);
    }

    @Sentence(at = "25", says = "- `rank`: 0 to 8")
    void ranksOfFlats() {
        is(1, () -> of("graph 1 1").flats(0));
        is(0, () -> of("graph 1 1").flats(8));
        is(1, () -> of(EIGHT).flats(8));
    }

    @Sentence(at = "25", says = "Throws `IllegalArgumentException` if rank is out of range")
    void noRankOfFlats() {
        takes(Check.ARGUMENT, 0, 8, GainGraphs::new, GainGraphs::flats);
        takes(Check.ARGUMENT, 0, 8, () -> of(EIGHT), GainGraphs::flats);
    }

    @Sentence(at = "26", says = "Returns the basis that is found arc by arc, by rising WEIGHTS,")
    void byRisingWeights() {
        GainGraphs x = of(FAN);
        for (int arc = 0; arc < 12; arc++) {
            x.setWeight(arc, 99 - 9 * arc);
        }
        is(1024 + 2048, x::leastBasis);
        x.setWeight(0, 0);
        is(1 + 2048, x::leastBasis);
        is(3, () -> of("graph 2 2;arc 0 0 1 99;arc 1 1 1 99").leastBasis());
        is(2, () -> of("graph 1 2;arc 0 0 1 1;arc 0 0 1 0").leastBasis());
    }

    @Sentence(at = "26", says = " of like ones by numbers:")
    void ofLikeOnesByNumbers() {
        is(3, () -> of(FAN).leastBasis());
        is(1, () -> of(twelve("graph 1 2", "arc 0 0 1 99")).leastBasis());
        is(1, () -> of(twelve("graph 1 2", "arc 0 0 1 0")).leastBasis());
    }

    @Sentence(at = "26", says = " each arc comes to it with which it stays independent.")
    void whatStaysIndependent() {
        is(0, () -> of("graph 8 12").leastBasis());
        is(0, () -> of(twelve("graph 1 1", "arc 0 0 0 0")).leastBasis());
        is(255, () -> of(EIGHT).leastBasis());
        is(255, () -> of(LONGEST).leastBasis());
        is(4, () -> of("graph 2 3;arc 0 0 0 0;arc 1 1 0 0;arc 0 1 2 99").leastBasis());
    }

    // Promises 27 to 29.

    @Sentence(at = "27", says = "Returns the sum of the WEIGHTS of a set.")
    void sumsOfWeights() {
        is(0, () -> of(twelve("graph 1 1", "arc 0 0 0 99")).weight(0));
        is(1188, () -> of(twelve("graph 1 1", "arc 0 0 0 99")).weight(4095));
        is(99, () -> of(twelve("graph 1 1", "arc 0 0 0 99")).weight(2048));
        is(0, () -> of(twelve("graph 1 1", "arc 0 0 0 0")).weight(4095));
        is(12, () -> of(TWELVE).weight(4095));
        is(0, () -> of("graph 1 1").weight(0));
    }

    @Sentence(at = "27", says = NO_SET)
    void noSetWithAWeight() {
        takesSets(GainGraphs::weight);
    }

    @Sentence(at = "28", says = "Tells whether an arc is in each basis.")
    void bridges() {
        is(true, () -> of("graph 2 1;arc 0 1 0").isBridge(0));
        is(false, () -> of("graph 1 1;arc 0 0 0").isBridge(0));
        is(true, () -> of("graph 1 2;arc 0 0 1").isBridge(0));
        row(of(EIGHT), (x, arc) -> one(x.isBridge(arc)), 1, 1, 1, 1, 1, 1, 1, 1);
        row(of(LONGEST), (x, arc) -> one(x.isBridge(arc)), 0, 0, 0, 0, 0, 0, 0, 0, 0);
        row(of("graph 3 2;arc 0 1 1;arc 0 1 1;arc 1 2 0"), (x, arc) -> one(x.isBridge(arc)), 0, 0, 1);
        row(of("graph 3 2;arc 0 1 0;arc 0 1 1;arc 2 2 0"), (x, arc) -> one(x.isBridge(arc)), 1, 1, 0);
        is(false, () -> of(FAN).isBridge(11));
    }

    @Sentence(at = "28", says = "Throws `IndexOutOfBoundsException` if there is no such arc")
    void noArcThatMayBeABridge() {
        takesArcs((x, arc) -> one(x.isBridge(arc)));
    }

    @Sentence(at = "29", says = "Returns the set of the fewest arcs without which the others are balanced,")
    void theFewestArcs() {
        is(0, () -> of("graph 8 12").frustration());
        is(0, () -> of(twelve("graph 1 1", "arc 0 0 0")).frustration());
        is(4095, () -> of(twelve("graph 1 2", "arc 0 0 1")).frustration());
        is(255, () -> of(EIGHT).frustration());
        is(257, () -> of(LONGEST).frustration());
        is(2047, () -> of(FAN).frustration());
        is(4, () -> of("graph 2 2;arc 0 1 0;arc 0 1 0;arc 0 1 1").frustration());
        is(1, () -> of("graph 2 2;arc 0 1 0;arc 0 1 1;arc 0 1 1").frustration());
    }

    @Sentence(at = "29", says = " of several such sets the least number.")
    void theLeastNumber() {
        is(1, () -> of("graph 2 2;arc 0 1 0;arc 0 1 1").frustration());
        is(63, () -> of("graph 2 2" + ";arc 0 1 1".repeat(6) + ";arc 0 1 0".repeat(6)).frustration());
        is(1365, () -> of("graph 2 2" + ";arc 0 1 0;arc 0 1 1".repeat(6)).frustration());
        is(1, () -> of("graph 8 3;arc 0 1 1;arc 1 2 1;arc 2 3 1;arc 3 4 1;arc 4 5 1;arc 5 6 1;arc 6 7 1;arc 7 0 1").frustration());
    }
}
