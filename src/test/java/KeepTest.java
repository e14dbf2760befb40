/** Promises 60 to 63: totals, undo and snapshots. */
public final class KeepTest {
    private static final Check CHECK = new Check();

    public static void main(String[] args) {
        totals();
        undoEachAction();
        undoEight();
        snapshots();
        snapshotsStandAlone();
        badNumbers();
        CHECK.finish();
    }

    private static void totals() {
        GainGraphs x = Check.of("graph 4 3;arc 0 1 1");
        totals(x, 0, 0, 0, 0);
        x.switchAt(0, 1);
        x.switchAt(3, 0);
        x.addArc(1, 2, 0);
        x.addArc(2, 2, 0);
        x.addArc(2, 3, 0);
        x.dropArc(0);
        x.contract(0);
        totals(x, 2, 3, 1, 1);
        x.contract(0);
        totals(x, 2, 3, 1, 1);
        x.undo();
        totals(x, 2, 3, 1, 0);
        x.undo();
        totals(x, 2, 3, 0, 0);
        x.undo();
        totals(x, 2, 2, 0, 0);
        for (int k = 0; k < 20; k++) {
            x.switchAt(0, 1);
        }
        totals(x, 22, 2, 0, 0);
        x.saveSnapshot(1);
        x.switchAt(0, 1);
        x.addArc(0, 0, 0);
        x.restoreSnapshot(1);
        totals(x, 22, 2, 0, 0);
        Check.load(x, "graph 4 3;");
        totals(x, 22, 2, 0, 0);
        Check.load(x, "graph 4 3");
        totals(x, 0, 0, 0, 0);
        x.restoreSnapshot(1);
        totals(x, 22, 2, 0, 0);
    }

    private static void totals(GainGraphs x, int... due) {
        for (int what = 0; what < 4; what++) {
            int k = what;
            CHECK.due("60: total(" + k + ")", due[k], () -> x.total(k));
        }
    }

    private interface Act {
        void on(GainGraphs x);
    }

    private static void undoEachAction() {
        undone("setPalette", x -> x.setPalette(3));
        undone("paint", x -> x.paint(2, 0));
        undone("clean", x -> x.clean(0));
        undone("finish", GainGraphs::finish);
        undone("addArc", x -> x.addArc(1, 1, 1));
        undone("addVertex", GainGraphs::addVertex);
        undone("dropArc", x -> x.dropArc(0));
        undone("setGain", x -> x.setGain(1, 0));
        undone("setWeight", x -> x.setWeight(1, 0));
        undone("turnArc", x -> x.turnArc(1));
        undone("switchAt", x -> x.switchAt(1, 2));
        undone("contract", x -> x.contract(1));
        undone("mark", x -> x.mark(5));
        undone("markClosure", GainGraphs::markClosure);
    }

    private static void undone(String name, Act act) {
        GainGraphs x = Check.of("graph 4 3;arc 0 1 1;arc 1 2 2 8;arc 2 0 0;arc 3 3 0;mark 1 2");
        x.setPalette(2);
        x.paint(0, 4);
        x.paint(1, 2);
        String before = look(x);
        act.on(x);
        CHECK.told("6: " + name + " is an action", "4", String.valueOf(x.count(4)));
        CHECK.told("61: " + name + " changes something", "false", String.valueOf(before.equals(look(x))));
        CHECK.due("61: undo of " + name, 3, x::undo);
        CHECK.told("61: undo of " + name, before, look(x));
    }

    /** All that can be seen of the graph but how many actions can be taken back. */
    private static String look(GainGraphs x) {
        StringBuilder seen = new StringBuilder();
        for (int what = 0; what < 7; what++) {
            seen.append(what == 4 ? 0 : x.count(what)).append(' ');
        }
        for (int arc = 0; arc < x.count(2); arc++) {
            for (int what = 0; what < 5; what++) {
                seen.append(x.arc(arc, what)).append(' ');
            }
        }
        for (int vertex = 0; vertex < x.count(0); vertex++) {
            seen.append(x.painted(vertex)).append(' ');
        }
        for (int what = 0; what < 4; what++) {
            seen.append(x.total(what)).append(' ');
        }
        return seen.append(x.colorings(2)).append(' ').append(x.bases()).toString();
    }

    private static void undoEight() {
        GainGraphs x = Check.of("graph 2 12;arc 0 1 0");
        CHECK.due("61: nothing", -1, x::undo);
        for (int gain = 1; gain <= 11; gain++) {
            x.setGain(0, gain);
            int due = Math.min(gain, 8);
            CHECK.due("6: actions", due, () -> x.count(4));
        }
        for (int left = 7; left >= 0; left--) {
            int due = left;
            CHECK.due("61: undo", due, x::undo);
            CHECK.due("61: gain", due + 3, () -> x.arc(0, 2));
        }
        CHECK.due("61: the latest eight alone", -1, x::undo);
        CHECK.due("61: nothing changes", 3, () -> x.arc(0, 2));
        x.setWeight(0, 4);
        x.setWeight(0, 5);
        CHECK.due("61: goes on", 1, x::undo);
        x.setWeight(0, 6);
        CHECK.due("61: what was taken back is gone", 1, x::undo);
        CHECK.due("61: weight", 4, () -> x.arc(0, 3));
        CHECK.due("61: undo", 0, x::undo);
        CHECK.due("61: weight", 1, () -> x.arc(0, 3));
        CHECK.due("61: undo", -1, x::undo);
        x.contract(0);
        CHECK.due("61: an error is no action", 0, x::undo);
        x.addArc(0, 0, 0);
        x.contract(1);
        x.paint(0, 0);
        CHECK.due("61: an error is no action", 1, () -> x.count(4));
    }

    private static void snapshots() {
        GainGraphs x = Check.of("graph 4 3;arc 0 1 1;arc 1 2 2 8;arc 2 0 0;mark 1 2");
        x.setPalette(2);
        x.paint(3, 5);
        x.switchAt(0, 1);
        String first = look(x);
        Check.append(x, "graph 2");
        CHECK.due("62: saveSnapshot(0)", 3, () -> x.saveSnapshot(0));
        CHECK.due("62: is no action", 3, () -> x.count(4));
        CHECK.due("62: the actions stay", 2, x::undo);
        x.contract(0);
        x.finish();
        String second = look(x);
        CHECK.due("62: saveSnapshot(1)", 2, () -> x.saveSnapshot(1));
        Check.append(x, " 2;arc 0");
        CHECK.due("63: restoreSnapshot(0)", 3, () -> x.restoreSnapshot(0));
        CHECK.told("63: all is as it was", first, look(x));
        CHECK.due("63: nothing can be taken back", -1, x::undo);
        CHECK.due("6: actions", 0, () -> x.count(4));
        CHECK.due("63: restoreSnapshot(1)", 2, () -> x.restoreSnapshot(1));
        CHECK.told("63: all is as it was", second, look(x));
        Check.append(x, " 1 1");
        CHECK.due("63: the buffer stays", 1, x::load);
        CHECK.due("7: its arc", 1, () -> x.arc(0, 2));
        Check.load(x, "graph 9");
        x.restoreSnapshot(1);
        CHECK.due("63: the results of the latest load stay", 2, x::loadError);
        CHECK.due("63: the results of the latest load stay", 0, x::loadStatement);
        CHECK.told("63: the snapshots stay on load", second, look(x));
    }

    private static void snapshotsStandAlone() {
        GainGraphs x = Check.of("graph 2 5;arc 0 1 1");
        CHECK.due("63: nothing was saved", -1, () -> x.restoreSnapshot(0));
        x.setGain(0, 2);
        CHECK.due("63: nothing was saved, nothing changes", -1, () -> x.restoreSnapshot(1));
        CHECK.due("6: the actions stay", 1, () -> x.count(4));
        x.saveSnapshot(0);
        x.setGain(0, 3);
        x.paint(0, 1);
        x.undo();
        x.undo();
        x.undo();
        CHECK.due("63: a snapshot outlives undo", 1, () -> x.restoreSnapshot(0));
        CHECK.due("63: gain", 2, () -> x.arc(0, 2));
        x.setGain(0, 4);
        x.addArc(1, 1, 0);
        x.restoreSnapshot(0);
        CHECK.due("63: a copy is taken", 2, () -> x.arc(0, 2));
        CHECK.due("63: arcs", 1, () -> x.count(2));
        x.setGain(0, 4);
        CHECK.due("62: saved anew", 1, () -> x.saveSnapshot(0));
        x.setGain(0, 1);
        x.restoreSnapshot(0);
        CHECK.due("63: the newer one", 4, () -> x.arc(0, 2));
        CHECK.due("63: the other slot", -1, () -> x.restoreSnapshot(1));
        CHECK.due("63: another object has its own", -1, () -> new GainGraphs().restoreSnapshot(0));
    }

    private static void badNumbers() {
        GainGraphs x = new GainGraphs();
        for (int number : new int[] {-1, 2, Integer.MIN_VALUE, Integer.MAX_VALUE}) {
            CHECK.refused("62: saveSnapshot(" + number + ")", Check.ARGUMENT, () -> x.saveSnapshot(number));
            CHECK.refused("63: restoreSnapshot(" + number + ")", Check.ARGUMENT, () -> x.restoreSnapshot(number));
        }
        CHECK.refused("60: total(-1)", Check.ARGUMENT, () -> x.total(-1));
        CHECK.refused("60: total(4)", Check.ARGUMENT, () -> x.total(4));
    }
}
