/** Promises 45 to 49 at their edges. */
final class LikeBounds extends Bounds {
    private static final String NO_ARC = "Throws `IndexOutOfBoundsException` if there is no such arc";
    private static final String NO_COLORS = "Throws `IllegalArgumentException` if colors is out of range";
    private static final String COLORS = "- `colors`: K, 1 to 5";
    private static final String TRIANGLE = "graph 3 1;arc 0 1 0;arc 1 2 0;arc 2 0 0";

    private static String twelve(String start, String arc) {
        return start + (";" + arc).repeat(12);
    }

    // Promise 45.

    @Sentence(at = "45", says = "Returns the gain that an arc would have if vertices were switched so that each arc of the forest has the gain 0,"
            + " and the lowest vertex of each component of the forest is not switched.")
    void gainsAtRest() {
        row(of("graph 1 12;arc 0 0 0;arc 0 0 11"), GainGraphs::normalGain, 0, 11);
        row(of("graph 2 12;arc 0 1 11;arc 0 1 11;arc 1 0 1;arc 0 1 0;arc 1 0 0"), GainGraphs::normalGain, 0, 0, 0, 1, 11);
        row(of("graph 8 12;arc 7 6 5;arc 6 5 5;arc 5 4 5;arc 4 3 5;arc 3 2 5;arc 2 1 5;arc 1 0 5;arc 7 0 0;arc 0 7 0"),
                GainGraphs::normalGain, 0, 0, 0, 0, 0, 0, 0, 1, 11);
        // Two components: the loop at 2, the lowest vertex of the second one, stays; so does that at 3, which is switched.
        row(of("graph 4 5;arc 2 3 3;arc 2 2 4;arc 3 3 1;arc 3 2 3"), GainGraphs::normalGain, 0, 4, 1, 1);
        GainGraphs x = of(TWELVE);
        String before = look(x);
        is(0, () -> x.normalGain(0));
        same(before, look(x));
    }

    @Sentence(at = "45", says = "The forest has each arc, by numbers, that joins two components of the arcs of the forest before it.")
    void theForest() {
        row(of("graph 3 5;arc 0 0 1;arc 0 1 1;arc 1 0 1;arc 1 2 2;arc 0 2 0"), GainGraphs::normalGain, 1, 0, 2, 0, 2);
        row(of("graph 3 5;arc 0 2 0;arc 1 2 2;arc 1 0 1;arc 0 1 1;arc 0 0 1"), GainGraphs::normalGain, 0, 0, 4, 3, 1);
        row(of(twelve("graph 8 12", "arc 7 0 5")), GainGraphs::normalGain, 0, 0, 0, 0, 0, 0, 0, 0, 0, 0, 0, 0);
        row(of(twelve("graph 8 12", "arc 7 7 5")), GainGraphs::normalGain, 5, 5, 5, 5, 5, 5, 5, 5, 5, 5, 5, 5);
        // Two trees that the fourth arc joins at last: the fifth one closes a ring over all of them.
        row(of("graph 4 7;arc 0 1 1;arc 3 2 2;arc 2 2 6;arc 2 1 3;arc 3 0 1"), GainGraphs::normalGain, 0, 0, 6, 0, 4);
    }

    @Sentence(at = "45", says = "Returns 0 to M - 1.")
    void gainsAtRestGoRound() {
        row(of("graph 2 12;arc 0 1 11;arc 0 1 10;arc 1 0 0"), GainGraphs::normalGain, 0, 11, 11);
        row(of("graph 2 12;arc 1 0 11;arc 1 0 10;arc 0 1 0"), GainGraphs::normalGain, 0, 11, 11);
        row(of("graph 2 1;arc 0 1 0;arc 1 0 0"), GainGraphs::normalGain, 0, 0);
    }

    @Sentence(at = "45", says = NO_ARC)
    void noGainAtRest() {
        takesArcs(GainGraphs::normalGain);
    }

    // Promise 46.

    @Sentence(at = "46", says = "Tells whether the graph of a snapshot could be made of the present one by switching: N and M are the same,"
            + " and arc by arc FROM, TO and normalGain(int).")
    void likeGraphs() {
        Act[] like = {x -> 0, x -> x.switchAt(0, 3), x -> x.switchAt(2, 1), x -> x.setGain(0, 0), x -> x.setWeight(0, 99), x -> x.mark(3),
            x -> x.paint(0, 0), x -> x.setPalette(5), x -> x.addVertex() + x.undo(), x -> x.dropArc(1) + x.addArc(1, 2, 0)};
        Act[] unlike = {GainGraphs::addVertex, x -> x.dropArc(1), x -> x.addArc(0, 0, 0), x -> x.turnArc(0), x -> x.turnArc(1),
            x -> x.contract(0), x -> x.dropArc(0) + x.addArc(0, 1, 1), x -> Check.load(x, "graph 3 5;arc 0 1 1;arc 1 2 0"),
            x -> Check.load(x, "graph 3 4;arc 0 2 1;arc 1 2 0"), x -> Check.load(x, "graph 3 4;arc 0 1 1;arc 0 2 0")};
        for (Act act : like) {
            is(true, () -> isLikeAfter("graph 3 4;arc 0 1 1;arc 1 2 0", act));
        }
        for (Act act : unlike) {
            is(false, () -> isLikeAfter("graph 3 4;arc 0 1 1;arc 1 2 0", act));
        }
        is(true, () -> isLikeAfter("graph 1 1", x -> 0));
        is(false, () -> isLikeAfter("graph 1 12;arc 0 0 0", x -> x.setGain(0, 11)));
        is(false, () -> isLikeAfter(twelve("graph 2 12", "arc 0 1 3"), x -> x.setGain(11, 4)));
        is(false, () -> isLikeAfter(twelve("graph 2 12", "arc 0 1 3"), x -> x.setGain(0, 4)));
        is(true, () -> isLikeAfter(twelve("graph 2 12", "arc 0 1 3"), x -> x.switchAt(1, 11)));
    }

    private static boolean isLikeAfter(String text, Act act) {
        GainGraphs x = of(text);
        x.saveSnapshot(1);
        act.on(x);
        return x.isLike(1);
    }

    @Sentence(at = "46", says = "- `slot`: 0 or 1")
    void bothSlots() {
        GainGraphs x = of(THREE);
        x.saveSnapshot(0);
        row(x, (y, slot) -> one(y.isLike(slot)), 1, 0);
        x.addVertex();
        x.saveSnapshot(1);
        row(x, (y, slot) -> one(y.isLike(slot)), 0, 1);
    }

    @Sentence(at = "46", says = "Returns true if so;")
    void trueIfSo() {
        is(true, () -> isLikeAfter(TWELVE, x -> x.switchAt(7, 11)));
        is(false, () -> isLikeAfter(TWELVE, x -> x.setGain(11, 10)));
    }

    @Sentence(at = "46", says = "false if nothing was saved there.")
    void nothingSaved() {
        // The graph of a new object is the one that an empty slot might be taken for.
        row(new GainGraphs(), (x, slot) -> one(x.isLike(slot)), 0, 0);
        row(of("graph 2 2"), (x, slot) -> one(x.isLike(slot)), 0, 0);
        GainGraphs x = new GainGraphs();
        x.saveSnapshot(0);
        row(x, (y, slot) -> one(y.isLike(slot)), 1, 0);
    }

    @Sentence(at = "46", says = "Throws `IllegalArgumentException` if slot is out of range")
    void noSlot() {
        takes(Check.ARGUMENT, 0, 1, GainGraphs::new, (x, slot) -> one(x.isLike(slot)));
        takes(Check.ARGUMENT, 0, 1, () -> after(THREE, x -> x.saveSnapshot(0) + x.saveSnapshot(1)), (x, slot) -> one(x.isLike(slot)));
    }

    // Promises 47 to 49.

    @Sentence(at = "47", says = "Predicts how many bases there would be if an arc was dropped.")
    void basesWithout() {
        is(1, () -> of("graph 1 1;arc 0 0 0").basesWithout(0));
        is(1, () -> of("graph 2 1;arc 0 1 0").basesWithout(0));
        row(of(TRIANGLE), GainGraphs::basesWithout, 1, 1, 1);
        is(11, () -> of(twelve("graph 1 2", "arc 0 0 1")).basesWithout(0));
        is(11, () -> of(twelve("graph 1 2", "arc 0 0 1")).basesWithout(11));
        is(1, () -> of(twelve("graph 1 1", "arc 0 0 0")).basesWithout(11));
        // Without the bridge the others have a lesser rank.
        row(of("graph 3 1;arc 0 1 0;arc 1 0 0;arc 1 2 0"), GainGraphs::basesWithout, 1, 1, 2);
    }

    @Sentence(at = "47", says = NO_ARC)
    void noArcForBases() {
        takesArcs(GainGraphs::basesWithout);
    }

    @Sentence(at = "48", says = "Predicts how many proper colorings there would be if an arc was dropped.")
    void coloringsWithout() {
        is(61, () -> of("graph 1 12;arc 0 0 0").coloringsWithout(0, 5));
        is(2, () -> of("graph 1 1;arc 0 0 0").coloringsWithout(0, 1));
        is(191707312997281L, () -> of("graph 8 12;arc 7 7 0").coloringsWithout(0, 5));
        row(of(TRIANGLE), (x, arc) -> x.coloringsWithout(arc, 5), 150, 150, 150);
        is(0, () -> of(twelve("graph 1 1", "arc 0 0 0")).coloringsWithout(11, 5));
        is(60, () -> of(twelve("graph 1 12", "arc 0 0 6")).coloringsWithout(11, 5));
    }

    @Sentence(at = "48", says = COLORS)
    void oneToFiveWithout() {
        row(of(TRIANGLE), (x, k) -> x.coloringsWithout(0, k + 1), 2, 12, 36, 80, 150);
    }

    @Sentence(at = "48", says = NO_ARC)
    void noArcForColorings() {
        takesArcs((x, arc) -> x.coloringsWithout(arc, 1));
        index(of(THREE), x -> x.coloringsWithout(3, 6));
    }

    @Sentence(at = "48", says = NO_COLORS)
    void noColorsForColorings() {
        takes(Check.ARGUMENT, 1, 5, () -> of(THREE), (x, colors) -> x.coloringsWithout(2, colors));
    }

    @Sentence(at = "49", says = "Predicts how many proper colorings there would be if an arc was contracted.")
    void coloringsMerged() {
        is(61, () -> of("graph 2 12;arc 1 0 11").coloringsMerged(0, 5));
        is(2, () -> of("graph 2 1;arc 0 1 0").coloringsMerged(0, 1));
        is(191707312997281L / 61, () -> of("graph 8 12;arc 0 7 6").coloringsMerged(0, 5));
        row(of(TRIANGLE), (x, arc) -> x.coloringsMerged(arc, 5), 30, 30, 30);
        // The second arc becomes a loop, of the gain 0 or of another one.
        is(0, () -> of("graph 2 12;arc 0 1 3;arc 1 0 9").coloringsMerged(0, 5));
        is(60, () -> of("graph 2 12;arc 0 1 3;arc 1 0 8").coloringsMerged(0, 5));
        is(60, () -> of("graph 2 12;arc 0 1 3;arc 1 0 8").coloringsMerged(1, 5));
        is(0, () -> of(twelve("graph 8 12", "arc 0 7 6")).coloringsMerged(11, 5));
    }

    @Sentence(at = "49", says = COLORS)
    void oneToFiveMerged() {
        row(of(TRIANGLE), (x, k) -> x.coloringsMerged(0, k + 1), 2, 6, 12, 20, 30);
    }

    @Sentence(at = "49", says = "LOOP if the arc is a loop.")
    void aLoop() {
        is(LOOP, () -> of("graph 1 1;arc 0 0 0").coloringsMerged(0, 1));
        is(LOOP, () -> of(TWELVE).coloringsMerged(10, 5));
        row(of("graph 2 2;arc 0 1 0;arc 1 1 1"), (x, arc) -> x.coloringsMerged(arc, 1), 2, LOOP);
    }

    @Sentence(at = "49", says = NO_ARC)
    void noArcToMerge() {
        takesArcs((x, arc) -> x.coloringsMerged(arc, 1));
        index(of(THREE), x -> x.coloringsMerged(3, 6));
    }

    @Sentence(at = "49", says = NO_COLORS)
    void noColorsToMerge() {
        takes(Check.ARGUMENT, 1, 5, () -> of(THREE), (x, colors) -> x.coloringsMerged(0, colors));
        takes(Check.ARGUMENT, 1, 5, () -> of(THREE), (x, colors) -> x.coloringsMerged(2, colors));
    }
}
