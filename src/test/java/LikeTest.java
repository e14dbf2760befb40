/** Promises 45 to 49: normal gains, likeness, predictions. */
public final class LikeTest {
    private static final Check CHECK = new Check();

    public static void main(String[] args) {
        normalGains();
        likeness();
        unlike();
        predictions();
        badNumbers();
        CHECK.finish();
    }

    private static void normalGains() {
        // The forest is 0, 2 and 5: 1 is beside 0, 3 closes 0-1-2, 4 is a loop, 6 goes back along 5.
        GainGraphs x = Check.of("graph 5 7;arc 1 0 3;arc 0 1 1;arc 2 1 5;arc 0 2 1;arc 3 3 6;arc 4 3 2;arc 4 3 6");
        normal(x, 0, 4, 0, 2, 6, 0, 4);
        x.switchAt(1, 5);
        x.switchAt(3, 2);
        x.switchAt(0, 6);
        normal(x, 0, 4, 0, 2, 6, 0, 4);
        x.turnArc(3);
        normal(x, 0, 4, 0, 5, 6, 0, 4);
        normal(Check.of("graph 2 1;arc 0 1 0;arc 0 1 0"), 0, 0);
    }

    private static void normal(GainGraphs x, int... due) {
        for (int arc = 0; arc < due.length; arc++) {
            int k = arc;
            CHECK.due("45: normalGain(" + k + ")", due[k], () -> x.normalGain(k));
        }
    }

    private static void likeness() {
        GainGraphs x = Check.of("graph 4 6;arc 0 1 1;arc 1 2 4;arc 2 0 3;arc 3 3 2;arc 2 3 5");
        like(x, 0, false, "nothing is saved");
        x.saveSnapshot(1);
        like(x, 0, false, "nothing is saved there");
        like(x, 1, true, "the same");
        x.switchAt(2, 5);
        x.switchAt(0, 1);
        like(x, 1, true, "switched");
        x.setPalette(4);
        x.paint(0, 3);
        x.mark(3);
        x.setWeight(1, 50);
        like(x, 1, true, "paint, marks and weights do not count");
        x.setGain(4, 0);
        like(x, 1, true, "a bridge can have any gain");
        x.setGain(3, 3);
        like(x, 1, false, "another loop");
        x.undo();
        x.setGain(1, 0);
        like(x, 1, false, "another triangle");
        x.undo();
        like(x, 1, true, "back again");
        Check.load(x, "graph 4 6;arc 0 1 0;arc 1 2 0;arc 2 0 2;arc 3 3 2;arc 2 3 0");
        like(x, 1, true, "loaded in the normal form");
    }

    private static void unlike() {
        GainGraphs x = Check.of("graph 3 4;arc 0 1 1;arc 1 2 1");
        x.saveSnapshot(0);
        x.addVertex();
        like(x, 0, false, "another N");
        x.undo();
        x.turnArc(1);
        like(x, 0, false, "a turned arc");
        x.undo();
        x.turnArc(0);
        like(x, 0, false, "another arc turned");
        x.undo();
        x.dropArc(1);
        like(x, 0, false, "an arc less");
        x.undo();
        x.addArc(0, 0, 0);
        like(x, 0, false, "an arc more");
        Check.load(x, "graph 3 5;arc 0 1 1;arc 1 2 1");
        like(x, 0, false, "another M");
        Check.load(x, "graph 3 4;arc 1 2 1;arc 0 1 1");
        like(x, 0, false, "another order");
        Check.load(x, "graph 3 4;arc 0 1 1;arc 0 2 1");
        like(x, 0, false, "another FROM");
        Check.load(x, "graph 3 4;arc 0 1 1;arc 1 0 1");
        like(x, 0, false, "another TO");
        Check.load(x, "graph 3 4;arc 2 1 1;arc 1 2 1");
        like(x, 0, false, "another FROM of the first");
        Check.load(x, "graph 3 4;arc 0 2 1;arc 1 2 1");
        like(x, 0, false, "another TO of the first");
        Check.load(x, "graph 3 4;arc 0 1 0;arc 1 2 2");
        like(x, 0, true, "other gains of a tree");
        Check.load(x, "graph 3 4");
        like(x, 0, false, "no arcs");
    }

    private static void like(GainGraphs x, int slot, boolean due, String why) {
        CHECK.due("46: isLike(" + slot + "), " + why, due, () -> x.isLike(slot));
    }

    private static void predictions() {
        String[] texts = {"graph 2 2;arc 0 1 0;arc 0 1 1;arc 0 0 1;arc 1 1 1", "graph 3 1;arc 0 1 0;arc 1 2 0;arc 2 0 0",
            "graph 4 5;arc 3 1 2;arc 1 0 4;arc 0 3 1;arc 2 2 0;arc 2 3 3;arc 3 2 3;arc 1 1 2",
            "graph 8 12;arc 7 6 1;arc 6 5 2;arc 5 7 9;arc 4 3 5;arc 3 2 6;arc 2 4 2;arc 1 0 3;arc 1 0 8;arc 0 7 0;arc 4 1 11"};
        for (String text : texts) {
            GainGraphs x = Check.of(text);
            for (int arc = 0; arc < x.count(2); arc++) {
                predicted(x, arc);
            }
            CHECK.due("47: predictions change nothing", 0, () -> x.count(4));
        }
        GainGraphs four = Check.of(texts[0]);
        CHECK.due("47: without one of four", 3, () -> four.basesWithout(2));
        CHECK.due("48: without one of four", 4 * 3, () -> four.coloringsWithout(3, 2));
        CHECK.due("49: two odd loops and one even at one vertex", 4, () -> Check.of("graph 2 2;arc 0 1 0;arc 0 1 1;arc 0 0 1")
                .coloringsMerged(0, 2));
        CHECK.due("49: a loop of gain 0 remains", 0, () -> Check.of(texts[1] + ";arc 0 1 0").coloringsMerged(0, 5));
        CHECK.due("49: a loop", -3, () -> four.coloringsMerged(2, 1));
        GainGraphs bridge = Check.of("graph 3 2;arc 0 1 0");
        CHECK.due("47: the only basis is without it", 1, () -> bridge.basesWithout(0));
        CHECK.due("48: no arcs", 125, () -> bridge.coloringsWithout(0, 2));
        CHECK.due("49: two vertices", 25, () -> bridge.coloringsMerged(0, 2));
    }

    private static void predicted(GainGraphs x, int arc) {
        boolean isLoop = x.arc(arc, 0) == x.arc(arc, 1);
        x.saveSnapshot(0);
        int bases = x.basesWithout(arc);
        long[] without = new long[6];
        long[] merged = new long[6];
        for (int colors = 1; colors <= 5; colors++) {
            without[colors] = x.coloringsWithout(arc, colors);
            merged[colors] = x.coloringsMerged(arc, colors);
        }
        x.dropArc(arc);
        CHECK.due("47: basesWithout(" + arc + ")", x.bases(), () -> bases);
        for (int colors = 1; colors <= 5; colors++) {
            long got = without[colors];
            CHECK.due("48: coloringsWithout(" + arc + ", " + colors + ")", x.colorings(colors), () -> got);
        }
        x.undo();
        x.contract(arc);
        for (int colors = 1; colors <= 5; colors++) {
            long got = merged[colors];
            CHECK.due("49: coloringsMerged(" + arc + ", " + colors + ")", isLoop ? -3 : x.colorings(colors), () -> got);
        }
        x.restoreSnapshot(0);
    }

    private static void badNumbers() {
        GainGraphs x = Check.of("graph 3 4;arc 0 1 1;arc 2 2 1");
        for (int arc : new int[] {-1, 2, 12, Integer.MIN_VALUE}) {
            CHECK.refused("45: normalGain(" + arc + ")", Check.INDEX, () -> x.normalGain(arc));
            CHECK.refused("47: basesWithout(" + arc + ")", Check.INDEX, () -> x.basesWithout(arc));
            CHECK.refused("48: coloringsWithout(" + arc + ", 6)", Check.INDEX, () -> x.coloringsWithout(arc, 6));
            CHECK.refused("49: coloringsMerged(" + arc + ", 6)", Check.INDEX, () -> x.coloringsMerged(arc, 6));
        }
        for (int colors : new int[] {-1, 0, 6, Integer.MAX_VALUE}) {
            CHECK.refused("48: coloringsWithout(0, " + colors + ")", Check.ARGUMENT, () -> x.coloringsWithout(0, colors));
            CHECK.refused("49: coloringsMerged(0, " + colors + ")", Check.ARGUMENT, () -> x.coloringsMerged(0, colors));
            CHECK.refused("49: exceptions come before LOOP", Check.ARGUMENT, () -> x.coloringsMerged(1, colors));
        }
        for (int slot : new int[] {-1, 2, Integer.MAX_VALUE}) {
            CHECK.refused("46: isLike(" + slot + ")", Check.ARGUMENT, () -> x.isLike(slot));
        }
    }
}
