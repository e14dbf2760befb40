/** Promises 60 to 63 at their edges. */
final class KeepBounds extends Bounds {
    private static final String NO_SLOT = "Throws `IllegalArgumentException` if slot is out of range";
    private static final String SLOT = "- `slot`: 0 or 1";

    /** Two switches, three new arcs, one dropped, one contracted; seven actions. */
    private static GainGraphs busy() {
        GainGraphs x = of("graph 4 3;arc 0 1 1");
        x.switchAt(0, 1);
        x.switchAt(3, 0);
        x.addArc(1, 2, 0);
        x.addArc(2, 2, 0);
        x.addArc(2, 3, 0);
        x.dropArc(0);
        x.contract(0);
        return x;
    }

    private void totals(GainGraphs x, long... due) {
        row(x, GainGraphs::total, due);
    }

    // Promise 60.

    @Sentence(at = "60", says = "Returns a total since load().")
    void sinceLoad() {
        totals(new GainGraphs(), 0, 0, 0, 0);
        GainGraphs x = busy();
        totals(x, 2, 3, 1, 1);
        Check.load(x, "graph 4 3;x");
        totals(x, 2, 3, 1, 1);
        Check.load(x, "graph 4 3");
        totals(x, 0, 0, 0, 0);
        // More actions than can be taken back are counted all the same.
        for (int k = 0; k < 100; k++) {
            x.switchAt(0, 0);
        }
        totals(x, 100, 0, 0, 0);
    }

    @Sentence(at = "60", says = "A snapshot has those of its own.")
    void totalsOfASnapshot() {
        GainGraphs x = busy();
        x.saveSnapshot(0);
        x.switchAt(0, 1);
        x.addArc(0, 0, 0);
        x.dropArc(0);
        totals(x, 3, 4, 2, 1);
        x.saveSnapshot(1);
        x.restoreSnapshot(0);
        totals(x, 2, 3, 1, 1);
        x.restoreSnapshot(1);
        totals(x, 3, 4, 2, 1);
        Check.load(x, "graph 1 1");
        totals(x, 0, 0, 0, 0);
        x.restoreSnapshot(0);
        totals(x, 2, 3, 1, 1);
        x.switchAt(0, 1);
        totals(x, 3, 3, 1, 1);
        x.undo();
        totals(x, 2, 3, 1, 1);
    }

    @Sentence(at = "60", says = "- `what`: 0 calls of switchAt(int, int), 1 of addArc(int, int, int), 2 of dropArc(int), 3 of contract(int),"
            + " that were actions;")
    void thatWereActions() {
        GainGraphs x = of(TWELVE);
        Check.answerOf(() -> x.switchAt(8, 0));
        Check.answerOf(() -> x.switchAt(0, 12));
        Check.answerOf(() -> x.addArc(0, 0, 0));
        Check.answerOf(() -> x.addArc(8, 0, 0));
        Check.answerOf(() -> x.dropArc(12));
        Check.answerOf(() -> x.contract(8));
        Check.answerOf(() -> x.contract(12));
        totals(x, 0, 0, 0, 0);
        x.switchAt(0, 0);
        totals(x, 1, 0, 0, 0);
        x.contract(0);
        totals(x, 1, 0, 0, 1);
        x.dropArc(0);
        totals(x, 1, 0, 1, 1);
        x.addArc(0, 0, 0);
        totals(x, 1, 1, 1, 1);
        x.addVertex();
        x.setGain(0, 0);
        x.setWeight(0, 0);
        x.turnArc(0);
        x.mark(0);
        totals(x, 1, 1, 1, 1);
    }

    @Sentence(at = "60", says = "what was taken back does not count")
    void whatWasTakenBack() {
        GainGraphs x = busy();
        x.undo();
        totals(x, 2, 3, 1, 0);
        x.undo();
        totals(x, 2, 3, 0, 0);
        x.undo();
        x.undo();
        x.undo();
        totals(x, 2, 0, 0, 0);
        x.undo();
        x.undo();
        totals(x, 0, 0, 0, 0);
        is(NONE, x::undo);
        totals(x, 0, 0, 0, 0);
    }

    @Sentence(at = "60", says = "Throws `IllegalArgumentException` if what is out of range")
    void noTotal() {
        takes(Check.ARGUMENT, 0, 3, GainGraphs::new, GainGraphs::total);
        takes(Check.ARGUMENT, 0, 3, KeepBounds::busy, GainGraphs::total);
    }

    // Promise 61.

    @Sentence(at = "61", says = "Takes the latest action back that was not taken back.")
    void theLatestAction() {
        GainGraphs x = of("graph 1 1;arc 0 0 0 50");
        x.setWeight(0, 51);
        x.setWeight(0, 52);
        is(1, x::undo);
        is(51, () -> x.arc(0, 3));
        x.setWeight(0, 53);
        is(1, x::undo);
        is(51, () -> x.arc(0, 3));
        is(0, x::undo);
        is(50, () -> x.arc(0, 3));
        // What was answered before is not what stands then.
        GainGraphs loop = of("graph 1 2;arc 0 0 1");
        is(0, () -> loop.circuits(1));
        loop.setGain(0, 0);
        is(1, () -> loop.circuits(1));
        loop.undo();
        is(0, () -> loop.circuits(1));
        // Round the eight places that there are, again and again: the action that was taken back has cost the oldest one.
        for (int k = 1; k <= 20; k++) {
            int weight = k;
            x.setWeight(0, weight);
            x.setWeight(0, 99);
            is(Math.min(k, 7), x::undo);
            is(weight, () -> x.arc(0, 3));
        }
        for (int back = 1; back <= 7; back++) {
            int due = 20 - back;
            is(due - 13, x::undo);
            is(due, () -> x.arc(0, 3));
        }
        is(NONE, x::undo);
        is(13, () -> x.arc(0, 3));
    }

    @Sentence(at = "61", says = "Returns how many can be taken back then;")
    void sevenToZero() {
        GainGraphs x = new GainGraphs();
        for (int k = 0; k < 30; k++) {
            x.clean(0);
        }
        row(x, (y, k) -> y.undo(), 7, 6, 5, 4, 3, 2, 1, 0, NONE, NONE);
        is(0, () -> x.count(4));
    }

    @Sentence(at = "61", says = "NONE, and nothing changes, if there is none.")
    void nothingToTakeBack() {
        keeps(GainGraphs::new, "-1", GainGraphs::undo);
        keeps(() -> of(TWELVE + ";mark 0"), "-1", GainGraphs::undo);
        keeps(() -> after(THREE, x -> x.saveSnapshot(0) + x.addVertex() + x.restoreSnapshot(0)), "-1", GainGraphs::undo);
        keeps(() -> {
            GainGraphs x = busy();
            for (int k = 0; k < 7; k++) {
                x.undo();
            }
            return x;
        }, "-1", GainGraphs::undo);
        // What lies before the latest eight cannot be taken back.
        keeps(() -> {
            GainGraphs x = busy();
            x.addArc(0, 0, 0);
            x.addArc(0, 0, 1);
            for (int k = 0; k < 8; k++) {
                x.undo();
            }
            return x;
        }, "-1", GainGraphs::undo);
        GainGraphs x = new GainGraphs();
        is(NONE, x::undo);
        x.addVertex();
        is(0, x::undo);
        is(2, () -> x.count(0));
    }

    // Promises 62 and 63.

    @Sentence(at = "62", says = "Copies everything except the input buffer, the results of the latest load, the actions and the snapshots"
            + " to a snapshot.")
    void aCopyOfEverything() {
        GainGraphs x = of(TWELVE + ";mark 0 11");
        x.setPalette(5);
        x.paint(7, 60);
        x.switchAt(7, 1);
        String saved = scene(x);
        int actions = x.count(4);
        x.saveSnapshot(1);
        same(saved, scene(x));
        is(actions, () -> x.count(4));
        is(actions - 1, x::undo);
        x.contract(0);
        x.setPalette(1);
        x.mark(7);
        Check.load(x, "graph 1 1");
        is(12, () -> x.restoreSnapshot(1));
        same(saved, scene(x));
        // Neither the buffer, nor the latest load, nor the other snapshot is part of it.
        GainGraphs y = new GainGraphs();
        Check.load(y, "graph 9");
        Check.append(y, "graph 1");
        y.saveSnapshot(0);
        y.addVertex();
        y.saveSnapshot(1);
        Check.append(y, " 1");
        Check.load(y, ";x");
        is(1, y::loadStatement);
        y.restoreSnapshot(0);
        is(1, y::loadError);
        is(1, y::loadStatement);
        is(0, () -> y.append(0));
        is(2, () -> y.count(0));
        y.restoreSnapshot(1);
        is(3, () -> y.count(0));
    }

    @Sentence(at = "62", says = SLOT)
    void bothSlotsToSave() {
        GainGraphs x = new GainGraphs();
        x.saveSnapshot(0);
        x.addArc(0, 0, 0);
        x.saveSnapshot(1);
        row(x, GainGraphs::restoreSnapshot, 0, 1);
        row(x, GainGraphs::restoreSnapshot, 0, 1);
        GainGraphs one = new GainGraphs();
        one.saveSnapshot(1);
        row(one, GainGraphs::restoreSnapshot, NONE, 0);
    }

    @Sentence(at = "62", says = "Returns the number of arcs.")
    void zeroToTwelveArcsSaved() {
        is(0, () -> new GainGraphs().saveSnapshot(0));
        is(12, () -> of(TWELVE).saveSnapshot(1));
        is(11, () -> after(TWELVE, x -> x.saveSnapshot(0) + x.dropArc(0)).saveSnapshot(0));
    }

    @Sentence(at = "62", says = NO_SLOT)
    void noSlotToSave() {
        takes(Check.ARGUMENT, 0, 1, GainGraphs::new, GainGraphs::saveSnapshot);
        keeps(KeepBounds::busy, "throws." + Check.ARGUMENT, x -> x.saveSnapshot(2));
        keeps(KeepBounds::busy, "throws." + Check.ARGUMENT, x -> x.saveSnapshot(-1));
    }

    @Sentence(at = "63", says = "Replaces everything by a copy of a snapshot, which stays;")
    void aSnapshotStays() {
        GainGraphs x = of(TWELVE + ";mark 0 11");
        x.paint(7, 12);
        x.saveSnapshot(0);
        String saved = scene(x);
        for (int round = 0; round < 3; round++) {
            x.contract(0);
            x.setPalette(3);
            x.addArc(0, 0, 0);
            x.setWeight(0, 99);
            x.mark(0);
            is(12, () -> x.restoreSnapshot(0));
            same(saved, scene(x));
        }
        // The graph that was larger leaves nothing behind.
        GainGraphs small = new GainGraphs();
        small.saveSnapshot(1);
        Check.load(small, TWELVE + ";mark 11");
        small.finish();
        small.restoreSnapshot(1);
        same(look(new GainGraphs()), look(small));
        is(2, small::addVertex);
        is(NONE, () -> small.painted(2));
        is(0, () -> small.addArc(0, 2, 1));
        is(0, small::marked);
    }

    @Sentence(at = "63", says = "Replaces everything by a copy")
    void whatWasAnsweredBefore() {
        GainGraphs x = of("graph 1 2;arc 0 0 1");
        x.saveSnapshot(0);
        x.setGain(0, 0);
        is(0, () -> x.colorings(1));
        is(1, () -> x.circuits(1));
        x.restoreSnapshot(0);
        is(2, () -> x.colorings(1));
        is(0, () -> x.circuits(1));
    }

    @Sentence(at = "63", says = "nothing can be taken back then.")
    void nothingCanBeTakenBack() {
        GainGraphs x = busy();
        x.saveSnapshot(0);
        x.addVertex();
        is(8, () -> x.count(4));
        x.restoreSnapshot(0);
        is(0, () -> x.count(4));
        is(NONE, x::undo);
        is(3, () -> x.count(0));
        x.addVertex();
        is(0, x::undo);
        is(NONE, x::undo);
    }

    @Sentence(at = "63", says = SLOT)
    void bothSlotsToRestore() {
        GainGraphs x = of("graph 1 1;arc 0 0 0");
        x.saveSnapshot(0);
        Check.load(x, "graph 8 12;arc 0 0 0;arc 7 7 11");
        x.saveSnapshot(1);
        is(1, () -> x.restoreSnapshot(0));
        is(1, () -> x.count(0));
        is(2, () -> x.restoreSnapshot(1));
        is(8, () -> x.count(0));
    }

    @Sentence(at = "63", says = "Returns the number of arcs;")
    void zeroToTwelveArcsRestored() {
        is(0, () -> after("graph 1 1", x -> x.saveSnapshot(0) + x.addArc(0, 0, 0)).restoreSnapshot(0));
        is(12, () -> after(TWELVE, x -> x.saveSnapshot(1) + x.dropArc(0)).restoreSnapshot(1));
    }

    @Sentence(at = "63", says = "NONE if nothing was saved there.")
    void nothingSaved() {
        keeps(KeepBounds::busy, "-1", x -> x.restoreSnapshot(0));
        keeps(KeepBounds::busy, "-1", x -> x.restoreSnapshot(1));
        keeps(() -> after(THREE, x -> x.addVertex() + x.saveSnapshot(0)), "-1", x -> x.restoreSnapshot(1));
        keeps(() -> after(THREE, x -> x.addVertex() + x.saveSnapshot(1)), "-1", x -> x.restoreSnapshot(0));
        is(NONE, () -> new GainGraphs().restoreSnapshot(0));
    }

    @Sentence(at = "63", says = NO_SLOT)
    void noSlotToRestore() {
        takes(Check.ARGUMENT, 0, 1, GainGraphs::new, GainGraphs::restoreSnapshot);
        takes(Check.ARGUMENT, 0, 1, () -> after(THREE, x -> x.saveSnapshot(0) + x.saveSnapshot(1)), GainGraphs::restoreSnapshot);
    }
}
