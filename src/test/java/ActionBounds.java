/** Promises 50 to 59 at their edges. */
final class ActionBounds extends Bounds {
    private static final String NO_VERTEX = "Throws `IndexOutOfBoundsException` if there is no such vertex";
    private static final String NO_ARC = "Throws `IndexOutOfBoundsException` if there is no such arc";
    private static final String NO_GAIN = "Throws `IllegalArgumentException` if gain is out of range";
    private static final String GAIN = "- `gain`: 0 to M - 1";

    private void arcIs(GainGraphs x, int arc, long... due) {
        row(x, (y, what) -> y.arc(arc, what), due);
    }

    /** The GAIN of each arc. */
    private void gains(GainGraphs x, long... due) {
        row(x, (y, arc) -> y.arc(arc, 2), due);
    }

    /** The call is an action: it answers so, it counts, and undo() brings back what stood before it. */
    private void acts(Maker maker, long want, Act act) {
        GainGraphs x = maker.make();
        String before = look(x);
        int actions = x.count(4);
        is(want, () -> act.on(x));
        is(actions + 1, () -> x.count(4));
        is(actions, x::undo);
        same(before, look(x));
    }

    // Promises 50 and 51.

    @Sentence(at = "50", says = "Adds an arc with the WEIGHT 1 behind the others (an action).")
    void anArcMore() {
        GainGraphs x = of(THREE + ";mark 0 1 2");
        is(3, () -> x.addArc(2, 1, 3));
        arcIs(x, 3, 2, 1, 3, 1, 0);
        arcIs(x, 2, 0, 0, 3, 1, 1);
        is(4, () -> x.addArc(2, 2, 0));
        arcIs(x, 4, 2, 2, 0, 1, 0);
        acts(() -> of(THREE), 3, y -> y.addArc(0, 2, 0));
        acts(GainGraphs::new, 0, y -> y.addArc(1, 0, 1));
        // No weight and no mark of an arc that went comes back.
        GainGraphs old = of("graph 8 12;arc 0 1 1 99;mark 0");
        old.dropArc(0);
        is(0, () -> old.addArc(7, 7, 11));
        arcIs(old, 0, 7, 7, 11, 1, 0);
    }

    @Sentence(at = "50", says = GAIN)
    void gainsOfANewArc() {
        is(0, () -> of("graph 1 1").addArc(0, 0, 0));
        is(0, () -> of("graph 8 12").addArc(7, 0, 11));
        gains(after("graph 8 12", x -> x.addArc(7, 0, 11)), 11);
    }

    @Sentence(at = "50", says = "Returns its number;")
    void numbersOfNewArcs() {
        row(of("graph 8 12"), (x, k) -> x.addArc(7, 7, 11), 0, 1, 2, 3, 4, 5, 6, 7, 8, 9, 10, 11);
    }

    @Sentence(at = "50", says = "FULL if there are 12.")
    void aThirteenthArc() {
        keeps(() -> of(TWELVE), "-2", x -> x.addArc(0, 0, 0));
        keeps(() -> after(TWELVE, x -> x.dropArc(0) + x.addArc(7, 7, 11)), "-2", x -> x.addArc(7, 7, 11));
        is(11, () -> after(TWELVE, x -> x.dropArc(11)).addArc(0, 0, 0));
        is(11, () -> after(TWELVE, x -> x.contract(0)).addArc(0, 0, 0));
    }

    @Sentence(at = "50", says = NO_VERTEX)
    void noEndOfANewArc() {
        takesVertices((x, vertex) -> x.addArc(vertex, 0, 0));
        takesVertices((x, vertex) -> x.addArc(0, vertex, 0));
        index(of(TWELVE), x -> x.addArc(0, 8, 12));
    }

    @Sentence(at = "50", says = NO_GAIN)
    void noGainOfANewArc() {
        takesGains((x, gain) -> x.addArc(0, 1, gain));
        takesGains((x, gain) -> x.addArc(1, 1, gain));
        argument(of(TWELVE), x -> x.addArc(0, 0, 12));
    }

    @Sentence(at = "51", says = "Adds a vertex behind the others (an action).")
    void aVertexMore() {
        GainGraphs x = of(THREE);
        x.addVertex();
        is(4, () -> x.count(0));
        is(0, () -> x.between(3, 3));
        is(NONE, () -> x.painted(3));
        is(3, () -> x.componentOf(7, 3));
        acts(() -> of(THREE), 3, GainGraphs::addVertex);
        acts(() -> of("graph 7 12"), 7, GainGraphs::addVertex);
    }

    @Sentence(at = "51", says = "Returns its number;")
    void numbersOfNewVertices() {
        row(of("graph 1 1"), (x, k) -> x.addVertex(), 1, 2, 3, 4, 5, 6, 7);
    }

    @Sentence(at = "51", says = "FULL if there are 8.")
    void aNinthVertex() {
        keeps(() -> of("graph 8 1"), "-2", GainGraphs::addVertex);
        keeps(() -> after("graph 7 1", GainGraphs::addVertex), "-2", GainGraphs::addVertex);
        is(7, () -> after(TWELVE, x -> x.contract(0)).addVertex());
    }

    // Promise 52.

    @Sentence(at = "52", says = "Takes an arc away;")
    void anArcLess() {
        GainGraphs x = of("graph 8 12;arc 0 7 11 99");
        is(0, () -> x.dropArc(0));
        is(0, () -> x.count(2));
        is(0, () -> x.between(0, 7));
        index(x, y -> y.arc(0, 0));
        acts(() -> of(TWELVE), 11, y -> y.dropArc(11));
        acts(() -> of(TWELVE + ";mark 0"), 11, y -> y.dropArc(0));
    }

    @Sentence(at = "52", says = "those behind it count one less, also as marked ones (an action).")
    void whatLiesBehind() {
        int[] marks = {2047, 2047, 2047};
        int[] drops = {0, 5, 11};
        for (int k = 0; k < 3; k++) {
            GainGraphs x = of(TWELVE + ";mark 0 1 2 3 4 5 6 7 8 9 10 11");
            x.dropArc(drops[k]);
            is(marks[k], x::marked);
        }
        GainGraphs first = of(TWELVE + ";mark 0 5 11");
        first.dropArc(0);
        is(16 + 1024, first::marked);
        gains(first, 2, 3, 4, 5, 6, 7, 8, 0, 11, 1, 11);
        GainGraphs weights = of("graph 8 12;arc 0 7 1 99;arc 7 1 2 0;arc 1 6 3 50");
        weights.dropArc(0);
        arcIs(weights, 0, 7, 1, 2, 0, 0);
        arcIs(weights, 1, 1, 6, 3, 50, 0);
        GainGraphs middle = of(TWELVE + ";mark 0 5 11");
        middle.dropArc(5);
        is(1 + 1024, middle::marked);
        gains(middle, 1, 2, 3, 4, 5, 7, 8, 0, 11, 1, 11);
        GainGraphs last = of(TWELVE + ";mark 0 5 11");
        last.dropArc(11);
        is(1 + 32, last::marked);
        gains(last, 1, 2, 3, 4, 5, 6, 7, 8, 0, 11, 1);
    }

    @Sentence(at = "52", says = "Returns how many there are then.")
    void elevenToZeroArcs() {
        row(of(TWELVE), (x, k) -> x.dropArc(11 - k), 11, 10, 9, 8, 7, 6, 5, 4, 3, 2, 1, 0);
        row(of(TWELVE), (x, k) -> x.dropArc(0), 11, 10, 9, 8, 7, 6, 5, 4, 3, 2, 1, 0);
    }

    @Sentence(at = "52", says = NO_ARC)
    void noArcToDrop() {
        takesArcs(GainGraphs::dropArc);
        index(after("graph 1 1;arc 0 0 0", x -> x.dropArc(0)), x -> x.dropArc(0));
    }

    // Promises 53 to 55.

    @Sentence(at = "53", says = "Sets GAIN of an arc (an action).")
    void theGain() {
        GainGraphs x = of(TWELVE);
        x.setGain(0, 11);
        x.setGain(11, 0);
        gains(x, 11, 2, 3, 4, 5, 6, 7, 8, 0, 11, 1, 0);
        acts(() -> of(TWELVE), 11, y -> y.setGain(11, 11));
        acts(() -> of(TWELVE), 1, y -> y.setGain(0, 0));
        acts(() -> of("graph 1 1;arc 0 0 0"), 0, y -> y.setGain(0, 0));
    }

    @Sentence(at = "53", says = GAIN)
    void leastAndGreatestGain() {
        row(of("graph 2 12;arc 0 1 0"), (x, k) -> x.setGain(0, k), 0, 0, 1, 2, 3, 4, 5, 6, 7, 8, 9, 10);
        gains(after("graph 1 12;arc 0 0 0", x -> x.setGain(0, 11)), 11);
        gains(after("graph 1 12;arc 0 0 11", x -> x.setGain(0, 0)), 0);
    }

    @Sentence(at = "53", says = "Returns the previous value.")
    void thePreviousGain() {
        GainGraphs x = of("graph 1 12;arc 0 0 11");
        is(11, () -> x.setGain(0, 0));
        is(0, () -> x.setGain(0, 0));
        is(0, () -> x.setGain(0, 11));
        is(1, () -> x.count(2));
    }

    @Sentence(at = "53", says = NO_ARC)
    void noArcWithAGain() {
        takesArcs((x, arc) -> x.setGain(arc, 0));
        index(of(THREE), x -> x.setGain(3, 4));
    }

    @Sentence(at = "53", says = NO_GAIN)
    void noGain() {
        takesGains((x, gain) -> x.setGain(0, gain));
    }

    @Sentence(at = "54", says = "Sets WEIGHT of an arc (an action).")
    void theWeight() {
        GainGraphs x = of(TWELVE);
        x.setWeight(0, 99);
        x.setWeight(11, 0);
        row(x, (y, arc) -> y.arc(arc, 3), 99, 1, 1, 1, 1, 1, 1, 1, 1, 1, 1, 0);
        is(109, () -> x.weight(4095));
        acts(() -> of(TWELVE), 1, y -> y.setWeight(11, 1));
        acts(() -> of(TWELVE), 1, y -> y.setWeight(0, 99));
    }

    @Sentence(at = "54", says = "- `weight`: 0 to 99")
    void leastAndGreatestWeight() {
        is(0, () -> after("graph 1 1;arc 0 0 0", x -> x.setWeight(0, 0)).arc(0, 3));
        is(99, () -> after("graph 1 1;arc 0 0 0", x -> x.setWeight(0, 99)).arc(0, 3));
    }

    @Sentence(at = "54", says = "Returns the previous value.")
    void thePreviousWeight() {
        GainGraphs x = of("graph 1 1;arc 0 0 0 99");
        is(99, () -> x.setWeight(0, 0));
        is(0, () -> x.setWeight(0, 0));
        is(0, () -> x.setWeight(0, 99));
        is(1, () -> of("graph 1 1;arc 0 0 0").setWeight(0, 0));
    }

    @Sentence(at = "54", says = NO_ARC)
    void noArcWithAWeight() {
        takesArcs((x, arc) -> x.setWeight(arc, 0));
        index(of(THREE), x -> x.setWeight(3, 100));
    }

    @Sentence(at = "54", says = "Throws `IllegalArgumentException` if weight is out of range")
    void noWeight() {
        takes(Check.ARGUMENT, 0, 99, () -> of(THREE), (x, weight) -> x.setWeight(2, weight));
    }

    @Sentence(at = "55", says = "Turns an arc: FROM and TO are exchanged, and GAIN becomes its negative, modulo M (an action).")
    void aTurnedArc() {
        GainGraphs x = of("graph 8 12;arc 0 7 1 99;arc 7 0 0;arc 3 3 11;arc 1 2 6;mark 0");
        is(11, () -> x.turnArc(0));
        arcIs(x, 0, 7, 0, 11, 99, 1);
        is(0, () -> x.turnArc(1));
        arcIs(x, 1, 0, 7, 0, 1, 0);
        is(1, () -> x.turnArc(2));
        arcIs(x, 2, 3, 3, 1, 1, 0);
        is(6, () -> x.turnArc(3));
        arcIs(x, 3, 2, 1, 6, 1, 0);
        acts(() -> of("graph 1 1;arc 0 0 0"), 0, y -> y.turnArc(0));
        acts(() -> of(TWELVE), 1, y -> y.turnArc(11));
    }

    @Sentence(at = "55", says = "Returns GAIN then.")
    void theGainThen() {
        GainGraphs x = of("graph 2 12;arc 0 1 0;arc 0 1 1;arc 0 1 11;arc 1 1 6");
        row(x, GainGraphs::turnArc, 0, 11, 1, 6);
        row(x, GainGraphs::turnArc, 0, 1, 11, 6);
        is(0, () -> of("graph 2 1;arc 0 1 0").turnArc(0));
        is(1, () -> of("graph 2 2;arc 0 1 1").turnArc(0));
    }

    @Sentence(at = "55", says = NO_ARC)
    void noArcToTurn() {
        takesArcs(GainGraphs::turnArc);
    }

    // Promise 56.

    @Sentence(at = "56", says = "Switches a vertex: GAIN of each arc that ends there becomes greater by a number, and that of each arc that begins"
            + " there less by it, modulo M;")
    void aSwitchedVertex() {
        GainGraphs x = of("graph 8 12;arc 0 7 0;arc 0 7 11;arc 7 0 0;arc 7 0 11;arc 1 2 5");
        is(4, () -> x.switchAt(7, 1));
        gains(x, 1, 0, 11, 10, 5);
        is(4, () -> x.switchAt(7, 11));
        gains(x, 0, 11, 0, 11, 5);
        is(4, () -> x.switchAt(0, 11));
        gains(x, 1, 0, 11, 10, 5);
        is(0, () -> x.switchAt(3, 11));
        gains(x, 1, 0, 11, 10, 5);
        acts(() -> of(TWELVE), 2, y -> y.switchAt(7, 6));
        acts(() -> of("graph 1 1"), 0, y -> y.switchAt(0, 0));
        acts(() -> after("graph 2 12", y -> y.paint(0, 12)), 0, y -> y.switchAt(0, 11));
    }

    @Sentence(at = "56", says = "that of its loops stays (an action).")
    void itsLoops() {
        GainGraphs x = of("graph 2 12;arc 0 0 0;arc 0 0 11;arc 1 1 3");
        is(0, () -> x.switchAt(0, 11));
        gains(x, 0, 11, 3);
        is(1, () -> x.count(4));
        is(0, () -> of("graph 1 12" + ";arc 0 0 5".repeat(12)).switchAt(0, 6));
    }

    @Sentence(at = "56", says = "- `by`: 0 to M - 1")
    void leastAndGreatestSwitch() {
        is(0, () -> of("graph 2 12;arc 0 1 3").switchAt(0, 0));
        gains(after("graph 2 12;arc 0 1 3", x -> x.switchAt(0, 11)), 4);
        gains(after("graph 2 12;arc 0 1 3", x -> x.switchAt(1, 11)), 2);
        gains(after("graph 2 1;arc 0 1 0", x -> x.switchAt(1, 0)), 0);
    }

    @Sentence(at = "56", says = "Returns how many arcs have another GAIN then.")
    void countsOfOtherGains() {
        is(0, () -> of("graph 2 2").switchAt(0, 1));
        is(0, () -> of("graph 2 2" + ";arc 0 1 1".repeat(12)).switchAt(0, 0));
        is(12, () -> of("graph 2 2" + ";arc 0 1 1;arc 1 0 0".repeat(6)).switchAt(0, 1));
        is(12, () -> of("graph 2 2" + ";arc 0 1 1;arc 1 0 0".repeat(6)).switchAt(1, 1));
        is(3, () -> of(TWELVE).switchAt(0, 11));
    }

    @Sentence(at = "56", says = NO_VERTEX)
    void noVertexToSwitch() {
        takesVertices((x, vertex) -> x.switchAt(vertex, 0));
        index(of(THREE), x -> x.switchAt(3, 4));
    }

    @Sentence(at = "56", says = "Throws `IllegalArgumentException` if by is out of range")
    void noSwitch() {
        takesGains((x, by) -> x.switchAt(0, by));
        takesGains((x, by) -> x.switchAt(1, by));
    }

    // Promise 57.

    @Sentence(at = "57", says = "Contracts an arc (an action): TO is switched so that the arc has the gain 0;")
    void toIsSwitched() {
        // Arc 0 has the gain 11, so TO is switched by 1.
        GainGraphs x = of("graph 8 12;arc 0 7 11;arc 6 7 11;arc 7 6 0;arc 7 7 5;arc 0 6 4;arc 0 7 11;arc 7 0 1;arc 0 7 0");
        is(7, () -> x.contract(0));
        gains(x, 0, 11, 5, 4, 0, 0, 1);
        GainGraphs still = of("graph 8 12;arc 0 7 0;arc 6 7 11;arc 7 6 0");
        still.contract(0);
        gains(still, 11, 0);
        acts(() -> of(TWELVE + ";mark 0 11"), 7, y -> y.contract(7));
        acts(() -> after("graph 2 12;arc 1 0 11", y -> y.paint(0, 12) + y.paint(1, 3)), 1, y -> y.contract(0));
        is(0, () -> after(TWELVE, y -> y.contract(0)).total(0));
    }

    @Sentence(at = "57", says = "then TO and FROM become one vertex, with the number of FROM (1 less, if FROM is behind TO);")
    void theNumberOfTheOneVertex() {
        GainGraphs before = of("graph 8 2;arc 0 7 0;arc 0 0 1;arc 7 7 1;arc 6 6 1");
        before.contract(0);
        arcIs(before, 0, 0, 0);
        arcIs(before, 1, 0, 0);
        arcIs(before, 2, 6, 6);
        GainGraphs behind = of("graph 8 2;arc 7 0 0;arc 0 0 1;arc 7 7 1;arc 6 6 1");
        behind.contract(0);
        arcIs(behind, 0, 6, 6);
        arcIs(behind, 1, 6, 6);
        arcIs(behind, 2, 5, 5);
        GainGraphs next = of("graph 8 2;arc 4 3 0;arc 3 4 1;arc 3 2 1;arc 5 4 1");
        next.contract(0);
        arcIs(next, 0, 3, 3);
        arcIs(next, 1, 3, 2);
        arcIs(next, 2, 4, 3);
    }

    @Sentence(at = "57", says = "vertices behind TO and arcs behind the arc count one less, and the arc is gone.")
    void whatLiesBehindToAndTheArc() {
        GainGraphs x = of(TWELVE.replace("arc 0 0 0", "arc 0 0 3") + ";mark 0 5 11");
        x.setPalette(5);
        row(x, (y, v) -> y.paint(v, 8 * v + 1), 1, 2, 3, 4, 5, 6, 7, 8);
        is(7, () -> x.contract(0));
        is(11, () -> x.count(2));
        is(16 + 1024, x::marked);
        row(x, (y, arc) -> y.arc(arc, 0), 0, 1, 2, 3, 4, 5, 6, 0, 0, 6, 0);
        row(x, (y, arc) -> y.arc(arc, 1), 1, 2, 3, 4, 5, 6, 0, 0, 0, 6, 0);
        row(x, GainGraphs::painted, 1, 17, 25, 33, 41, 49, 57);
        GainGraphs weights = of("graph 8 12;arc 0 7 1 99;arc 7 1 2 0;arc 1 6 3 50");
        weights.contract(0);
        arcIs(weights, 0, 0, 1, 3, 0, 0);
        arcIs(weights, 1, 1, 6, 3, 50, 0);
    }

    @Sentence(at = "57", says = "Returns how many vertices there are then;")
    void sevenToOneVertices() {
        GainGraphs x = of("graph 8 1;arc 0 1 0;arc 1 2 0;arc 2 3 0;arc 3 4 0;arc 4 5 0;arc 5 6 0;arc 6 7 0");
        row(x, (y, k) -> y.contract(0), 7, 6, 5, 4, 3, 2, 1);
        is(1, () -> x.count(0));
        is(0, () -> x.count(2));
    }

    @Sentence(at = "57", says = "LOOP if FROM is TO.")
    void aLoop() {
        keeps(() -> of("graph 1 1;arc 0 0 0"), "-3", x -> x.contract(0));
        keeps(() -> of(TWELVE), "-3", x -> x.contract(10));
        keeps(() -> after("graph 2 2;arc 0 1 0;arc 1 0 0", x -> x.contract(0)), "-3", x -> x.contract(0));
    }

    @Sentence(at = "57", says = NO_ARC)
    void noArcToContract() {
        takesArcs(GainGraphs::contract);
        index(after("graph 2 1;arc 0 1 0", x -> x.contract(0)), x -> x.contract(0));
    }

    // Promises 58 and 59.

    @Sentence(at = "58", says = "Makes a set of arcs the marked ones (an action).")
    void aMarkedSet() {
        GainGraphs x = of(TWELVE);
        x.mark(4095);
        is(12, () -> x.count(3));
        x.mark(2049);
        row(x, (y, arc) -> y.arc(arc, 4), 1, 0, 0, 0, 0, 0, 0, 0, 0, 0, 0, 1);
        x.mark(0);
        is(0, x::marked);
        acts(() -> of(TWELVE), 0, y -> y.mark(0));
        acts(() -> of(TWELVE + ";mark 0"), 1, y -> y.mark(4095));
        acts(GainGraphs::new, 0, y -> y.mark(0));
    }

    @Sentence(at = "58", says = "Returns the previous set.")
    void thePreviousSet() {
        GainGraphs x = of(TWELVE);
        is(0, () -> x.mark(4095));
        is(4095, () -> x.mark(2048));
        is(2048, () -> x.mark(2048));
        is(2048, () -> x.mark(0));
        is(0, () -> x.mark(0));
    }

    @Sentence(at = "58", says = "Throws `IllegalArgumentException` if it is no set of arcs (the empty one is)")
    void noSetToMark() {
        takesSets(GainGraphs::mark);
    }

    @Sentence(at = "59", says = "Marks the closure of the marked arcs (an action).")
    void theMarkedClosure() {
        GainGraphs x = of("graph 2 2" + ";arc 0 1 0;arc 1 0 0".repeat(6) + ";mark 11");
        is(12, x::markClosure);
        is(4095, x::marked);
        GainGraphs none = of(TWELVE);
        is(1, none::markClosure);
        is(256, none::marked);
        acts(() -> of("graph 8 12"), 0, GainGraphs::markClosure);
        acts(() -> of(TWELVE + ";mark 0 9"), 4, GainGraphs::markClosure);
        acts(() -> of(TWELVE + ";mark 8"), 1, GainGraphs::markClosure);
    }

    @Sentence(at = "59", says = "Returns how many arcs are marked then.")
    void zeroToTwelveMarks() {
        is(0, () -> new GainGraphs().markClosure());
        is(1, () -> of("graph 1 1;arc 0 0 0").markClosure());
        is(12, () -> of("graph 1 1" + ";arc 0 0 0".repeat(12)).markClosure());
        is(0, () -> of("graph 1 2" + ";arc 0 0 1".repeat(12)).markClosure());
        is(12, () -> of("graph 1 2" + ";arc 0 0 1".repeat(12) + ";mark 11").markClosure());
    }
}
