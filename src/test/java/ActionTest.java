/** Promises 50 to 59: the actions on the graph itself. */
public final class ActionTest {
    private static final Check CHECK = new Check();

    public static void main(String[] args) {
        additions();
        drops();
        settings();
        turns();
        switches();
        contractions();
        contractionsBehind();
        atTheLimits();
        marks();
        badNumbers();
        surveyIsForgotten();
        CHECK.finish();
    }

    private static void additions() {
        GainGraphs x = Check.of("graph 6 5;arc 0 1 1 7;mark 0");
        CHECK.due("50: addArc(5, 2, 4)", 1, () -> x.addArc(5, 2, 4));
        arcIs(x, 1, 5, 2, 4, 1, 0);
        CHECK.due("50: a loop", 2, () -> x.addArc(3, 3, 0));
        arcIs(x, 2, 3, 3, 0, 1, 0);
        arcIs(x, 0, 0, 1, 1, 7, 1);
        x.paint(0, 2);
        CHECK.due("51: addVertex", 6, x::addVertex);
        CHECK.due("51: not painted", -1, () -> x.painted(6));
        CHECK.due("51: addVertex", 7, x::addVertex);
        CHECK.due("51: addVertex, FULL", -2, x::addVertex);
        CHECK.due("51: N", 8, () -> x.count(0));
        CHECK.due("6: actions", 5, () -> x.count(4));
        for (int arc = 3; arc < 12; arc++) {
            int k = arc;
            CHECK.due("50: addArc", k, () -> x.addArc(7, 6, 1));
        }
        CHECK.due("50: addArc, FULL", -2, () -> x.addArc(0, 0, 0));
        CHECK.due("50: total", 11, () -> x.total(1));
        CHECK.due("50: arcs", 12, () -> x.count(2));
        CHECK.due("61: FULL was no action", 7, x::undo);
        CHECK.due("61: arcs", 11, () -> x.count(2));
        CHECK.due("60: total", 10, () -> x.total(1));
    }

    private static void drops() {
        GainGraphs x = Check.of("graph 4 5;arc 0 1 1 2;arc 1 2 2 3;arc 2 3 3 4;arc 3 0 4 5;mark 0 2 3");
        CHECK.due("52: dropArc(2)", 3, () -> x.dropArc(2));
        CHECK.due("52: marks", 5, x::marked);
        arcIs(x, 2, 3, 0, 4, 5, 1);
        arcIs(x, 1, 1, 2, 2, 3, 0);
        CHECK.due("52: dropArc(0)", 2, () -> x.dropArc(0));
        CHECK.due("52: marks", 2, x::marked);
        arcIs(x, 0, 1, 2, 2, 3, 0);
        CHECK.due("52: dropArc(1)", 1, () -> x.dropArc(1));
        CHECK.due("52: marks", 0, x::marked);
        CHECK.due("52: dropArc(0)", 0, () -> x.dropArc(0));
        CHECK.due("60: total", 4, () -> x.total(2));
        x.undo();
        x.undo();
        CHECK.due("61: marks", 2, x::marked);
        arcIs(x, 1, 3, 0, 4, 5, 1);
        CHECK.due("60: total", 2, () -> x.total(2));
    }

    private static void settings() {
        GainGraphs x = Check.of("graph 3 12;arc 0 1 7 3;arc 1 2 2");
        CHECK.due("53: setGain(0, 11)", 7, () -> x.setGain(0, 11));
        CHECK.due("53: setGain(0, 0)", 11, () -> x.setGain(0, 0));
        CHECK.due("54: setWeight(0, 99)", 3, () -> x.setWeight(0, 99));
        CHECK.due("54: setWeight(1, 0)", 1, () -> x.setWeight(1, 0));
        CHECK.due("54: setWeight(1, 0) again", 0, () -> x.setWeight(1, 0));
        arcIs(x, 0, 0, 1, 0, 99, 0);
        arcIs(x, 1, 1, 2, 2, 0, 0);
        CHECK.due("61: an action also if it changes nothing", 4, x::undo);
        x.undo();
        x.undo();
        arcIs(x, 0, 0, 1, 0, 3, 0);
        x.undo();
        arcIs(x, 0, 0, 1, 11, 3, 0);
    }

    private static void turns() {
        GainGraphs x = Check.of("graph 3 12;arc 0 1 7 3;arc 1 2 0;arc 2 2 5;mark 0");
        CHECK.due("55: turnArc(0)", 5, () -> x.turnArc(0));
        arcIs(x, 0, 1, 0, 5, 3, 1);
        CHECK.due("55: turnArc(1)", 0, () -> x.turnArc(1));
        arcIs(x, 1, 2, 1, 0, 1, 0);
        CHECK.due("55: turnArc(2)", 7, () -> x.turnArc(2));
        arcIs(x, 2, 2, 2, 7, 1, 0);
        CHECK.due("55: turnArc(0) back", 7, () -> x.turnArc(0));
        arcIs(x, 0, 0, 1, 7, 3, 1);
        CHECK.due("55: actions", 4, () -> x.count(4));
    }

    private static void switches() {
        GainGraphs x = Check.of("graph 4 5;arc 0 1 1;arc 1 2 2;arc 1 1 3;arc 2 3 4");
        x.setPalette(2);
        x.paint(1, 8);
        x.paint(3, 0);
        x.paint(0, 3);
        CHECK.due("56: switchAt(1, 4)", 2, () -> x.switchAt(1, 4));
        gains(x, 0, 3, 3, 4);
        CHECK.due("56: its color is switched", 7, () -> x.painted(1));
        CHECK.due("56: no other", 3, () -> x.painted(0));
        CHECK.due("56: switchAt(3, 1)", 1, () -> x.switchAt(3, 1));
        gains(x, 0, 3, 3, 0);
        CHECK.due("56: the color 0 stays", 0, () -> x.painted(3));
        CHECK.due("56: switchAt(1, 0)", 0, () -> x.switchAt(1, 0));
        gains(x, 0, 3, 3, 0);
        CHECK.due("60: each was an action", 3, () -> x.total(0));
        CHECK.due("56: switchAt(2, 2)", 2, () -> x.switchAt(2, 2));
        gains(x, 0, 0, 3, 3);
        CHECK.due("56: not painted", -1, () -> x.painted(2));
        x.undo();
        x.undo();
        x.undo();
        x.undo();
        gains(x, 1, 2, 3, 4);
        CHECK.due("61: its color is back", 8, () -> x.painted(1));
        CHECK.due("60: what was taken back", 0, () -> x.total(0));
        GainGraphs y = Check.of("graph 2 1;arc 0 1 0");
        CHECK.due("56: of the only gain", 0, () -> y.switchAt(0, 0));
        GainGraphs z = Check.of("graph 2 4;arc 0 1 1;arc 1 0 3;arc 0 1 0");
        z.paint(0, 2);
        z.paint(1, 1);
        z.setPalette(1);
        z.paint(0, 4);
        CHECK.due("56: with arcs both ways", 3, () -> z.switchAt(0, 1));
        gains(z, 0, 0, 3);
        CHECK.due("56: the color goes round", 1, () -> z.painted(0));
    }

    private static void contractions() {
        // Arc 0 goes; 1 and 2 are beside it, 3 and 4 are at TO, 5 is a loop there, 6 lies behind.
        GainGraphs x = Check.of("graph 5 7;arc 1 2 3;arc 1 2 5;arc 2 1 6;arc 2 4 2;arc 3 2 1;arc 2 2 4;arc 4 3 5 9;mark 0 3 6");
        x.setPalette(2);
        x.paint(1, 9);
        x.paint(2, 1);
        x.paint(4, 4);
        CHECK.due("57: contract(0)", 4, () -> x.contract(0));
        arcIs(x, 0, 1, 1, 2, 1, 0);
        arcIs(x, 1, 1, 1, 2, 1, 0);
        arcIs(x, 2, 1, 3, 5, 1, 1);
        arcIs(x, 3, 2, 1, 5, 1, 0);
        arcIs(x, 4, 1, 1, 4, 1, 0);
        arcIs(x, 5, 3, 2, 5, 9, 1);
        CHECK.due("57: arcs", 6, () -> x.count(2));
        int[] paint = {-1, 9, -1, 4};
        for (int vertex = 0; vertex < 4; vertex++) {
            int v = vertex;
            CHECK.due("57: painted(" + v + ")", paint[v], () -> x.painted(v));
        }
        CHECK.due("60: contractions", 1, () -> x.total(3));
        CHECK.due("60: no switches", 0, () -> x.total(0));
        CHECK.due("60: no drops", 0, () -> x.total(2));
        CHECK.due("57: a loop", -3, () -> x.contract(0));
        CHECK.due("57: was no action", 5, () -> x.count(4));
        CHECK.due("60: no contraction", 1, () -> x.total(3));
        CHECK.due("51: a new vertex", 4, x::addVertex);
        CHECK.due("51: has no old paint", -1, () -> x.painted(4));
        x.undo();
        CHECK.due("61: back", 4, x::undo);
        arcIs(x, 0, 1, 2, 3, 1, 1);
        CHECK.due("61: the paint of TO", 1, () -> x.painted(2));
    }

    private static void contractionsBehind() {
        GainGraphs x = Check.of("graph 4 5;arc 3 1 2;arc 0 1 1;arc 1 3 4;arc 2 3 3");
        x.paint(3, 2);
        x.paint(1, 3);
        x.paint(2, 1);
        CHECK.due("57: FROM is behind TO", 3, () -> x.contract(0));
        arcIs(x, 0, 0, 2, 4, 1, 0);
        arcIs(x, 1, 2, 2, 1, 1, 0);
        arcIs(x, 2, 1, 2, 3, 1, 0);
        CHECK.due("57: FROM keeps its paint", 2, () -> x.painted(2));
        CHECK.due("57: what lies between goes down", 1, () -> x.painted(1));
        CHECK.due("57: what lies before stays", -1, () -> x.painted(0));
        GainGraphs y = Check.of("graph 2 1;arc 1 0 0");
        CHECK.due("57: to one vertex", 1, () -> y.contract(0));
        CHECK.due("57: no arcs", 0, () -> y.count(2));
        GainGraphs z = Check.of("graph 8 2;arc 0 7 1;arc 7 6 0");
        z.paint(7, 1);
        CHECK.due("57: the last vertex goes", 7, () -> z.contract(0));
        arcIs(z, 0, 0, 6, 1, 1, 0);
        CHECK.due("57: its paint, too", 0, () -> z.count(6));
        GainGraphs w = Check.of("graph 3 2;arc 0 1 1;arc 0 1 1;arc 1 0 1");
        w.contract(1);
        arcIs(w, 0, 0, 0, 0, 1, 0);
        arcIs(w, 1, 0, 0, 0, 1, 0);
    }

    /** Twelve arcs and eight vertices, and what an arc that went has left behind. */
    private static void atTheLimits() {
        GainGraphs x = Check.of("graph 8 12;arc 0 1 1;arc 1 2 2;arc 2 3 3;arc 3 4 4;arc 4 5 5;arc 5 6 6;arc 6 7 7;arc 7 0 8;"
                + "arc 0 4 9;arc 4 0 10;arc 7 7 11;arc 0 7 0 12;mark 0 10 11");
        CHECK.due("56: switchAt(0, 11) of five arcs", 5, () -> x.switchAt(0, 11));
        CHECK.due("44: finish", 8, x::finish);
        CHECK.due("55: turnArc(11)", 11, () -> x.turnArc(11));
        CHECK.due("57: contract(11)", 7, () -> x.contract(11));
        CHECK.due("57: arcs", 11, () -> x.count(2));
        CHECK.due("57: marks", 1025, x::marked);
        x.undo();
        CHECK.due("57: contract(0)", 7, () -> x.contract(0));
        CHECK.due("57: marks", 1536, x::marked);
        x.undo();
        CHECK.due("52: dropArc(11)", 11, () -> x.dropArc(11));
        CHECK.due("52: dropArc(0)", 10, () -> x.dropArc(0));
        CHECK.due("52: marks", 512, x::marked);
        CHECK.due("56: switchAt(1, 1)", 1, () -> x.switchAt(1, 1));
        CHECK.due("56: switchAt(0, 1)", 3, () -> x.switchAt(0, 1));
        for (int left = 9; left >= 0; left--) {
            int due = left;
            CHECK.due("52: dropArc(" + left + ")", due, () -> x.dropArc(due));
            CHECK.due("56: no arc that went counts", 0, () -> due == 0 ? x.switchAt(0, 1) : 0);
        }
        GainGraphs y = Check.of("graph 3 2;arc 0 1 1");
        CHECK.due("44: finish", 3, y::finish);
        y.addVertex();
        CHECK.due("51: finish has not painted ahead", -1, () -> y.painted(3));
    }

    private static void marks() {
        GainGraphs x = Check.of("graph 4 5;arc 0 1 1;arc 1 2 2;arc 0 2 3;arc 2 3 1;arc 3 3 0;mark 3");
        CHECK.due("58: mark(3)", 8, () -> x.mark(3));
        CHECK.due("58: marked", 3, x::marked);
        CHECK.due("6: marked arcs", 2, () -> x.count(3));
        CHECK.due("7: arc(1, 4)", 1, () -> x.arc(1, 4));
        CHECK.due("7: arc(3, 4)", 0, () -> x.arc(3, 4));
        CHECK.due("59: markClosure", 4, x::markClosure);
        CHECK.due("59: marked", 23, x::marked);
        CHECK.due("59: again is an action, too", 4, x::markClosure);
        CHECK.due("6: actions", 3, () -> x.count(4));
        CHECK.due("58: mark(0)", 23, () -> x.mark(0));
        CHECK.due("59: the closure of the empty set", 1, x::markClosure);
        CHECK.due("59: marked", 16, x::marked);
        CHECK.due("58: mark(31)", 16, () -> x.mark(31));
        CHECK.due("61: undo", 5, x::undo);
        CHECK.due("61: marked", 16, x::marked);
        x.undo();
        x.undo();
        CHECK.due("61: marked", 23, x::marked);
    }

    private static void badNumbers() {
        GainGraphs x = Check.of("graph 3 4;arc 0 1 1;arc 2 2 1;mark 0");
        for (int vertex : new int[] {-1, 3, 8, Integer.MIN_VALUE}) {
            CHECK.refused("50: addArc(" + vertex + ", 0, 4)", Check.INDEX, () -> x.addArc(vertex, 0, 4));
            CHECK.refused("50: addArc(0, " + vertex + ", 4)", Check.INDEX, () -> x.addArc(0, vertex, 4));
            CHECK.refused("56: switchAt(" + vertex + ", 4)", Check.INDEX, () -> x.switchAt(vertex, 4));
        }
        for (int arc : new int[] {-1, 2, 12, Integer.MAX_VALUE}) {
            CHECK.refused("52: dropArc(" + arc + ")", Check.INDEX, () -> x.dropArc(arc));
            CHECK.refused("53: setGain(" + arc + ", 4)", Check.INDEX, () -> x.setGain(arc, 4));
            CHECK.refused("54: setWeight(" + arc + ", 100)", Check.INDEX, () -> x.setWeight(arc, 100));
            CHECK.refused("55: turnArc(" + arc + ")", Check.INDEX, () -> x.turnArc(arc));
            CHECK.refused("57: contract(" + arc + ")", Check.INDEX, () -> x.contract(arc));
        }
        for (int gain : new int[] {-1, 4, Integer.MIN_VALUE}) {
            CHECK.refused("50: addArc(0, 1, " + gain + ")", Check.ARGUMENT, () -> x.addArc(0, 1, gain));
            CHECK.refused("53: setGain(0, " + gain + ")", Check.ARGUMENT, () -> x.setGain(0, gain));
            CHECK.refused("56: switchAt(0, " + gain + ")", Check.ARGUMENT, () -> x.switchAt(0, gain));
        }
        for (int weight : new int[] {-1, 100, Integer.MAX_VALUE}) {
            CHECK.refused("54: setWeight(0, " + weight + ")", Check.ARGUMENT, () -> x.setWeight(0, weight));
        }
        for (int set : new int[] {-1, 4, Integer.MIN_VALUE}) {
            CHECK.refused("58: mark(" + set + ")", Check.ARGUMENT, () -> x.mark(set));
        }
        CHECK.due("6: none of these was an action", 0, () -> x.count(4));
        CHECK.due("60: nor counted", 0, () -> x.total(0) + x.total(1) + x.total(2) + x.total(3));
        arcIs(x, 0, 0, 1, 1, 1, 1);
        GainGraphs y = Check.of("graph 1 2;arc 0 0 0;arc 0 0 0;arc 0 0 0;arc 0 0 0;arc 0 0 0;arc 0 0 0;arc 0 0 0;arc 0 0 0;"
                + "arc 0 0 0;arc 0 0 0;arc 0 0 0;arc 0 0 0");
        CHECK.refused("50: exceptions come before FULL", Check.ARGUMENT, () -> y.addArc(0, 0, 2));
        CHECK.refused("50: exceptions come before FULL", Check.INDEX, () -> y.addArc(0, 1, 0));
        CHECK.due("50: FULL", -2, () -> y.addArc(0, 0, 1));
        CHECK.due("58: all of twelve", 0, () -> y.mark(4095));
        CHECK.refused("58: thirteen", Check.ARGUMENT, () -> y.mark(4096));
    }

    /** What was found out about all sets must not outlive any change of the graph. */
    private static void surveyIsForgotten() {
        GainGraphs x = Check.of("graph 3 2;arc 0 1 0;arc 1 2 0;arc 2 0 0");
        CHECK.due("24: bases", 3, x::bases);
        x.setGain(0, 1);
        CHECK.due("24: behind setGain", 1, x::bases);
        x.undo();
        CHECK.due("24: behind undo", 3, x::bases);
        x.addArc(0, 1, 0);
        CHECK.due("24: behind addArc", 5, x::bases);
        x.dropArc(1);
        CHECK.due("24: behind dropArc", 2, x::bases);
        x.saveSnapshot(0);
        x.contract(0);
        CHECK.due("24: behind contract", 2 - 1, x::bases);
        x.restoreSnapshot(0);
        CHECK.due("24: behind restoreSnapshot", 2, x::bases);
        x.addVertex();
        CHECK.due("32: behind addVertex", 1, () -> x.coefficient(4));
        Check.load(x, "graph 2 2;arc 0 1 0;arc 1 1 1");
        CHECK.due("24: behind load", 1, x::bases);
        x.turnArc(0);
        x.switchAt(1, 1);
        CHECK.due("24: behind switchAt", 1, x::bases);
        CHECK.due("22: circuits(1)", 0, () -> x.circuits(1));
        x.setGain(1, 0);
        CHECK.due("22: circuits(1)", 1, () -> x.circuits(1));
        CHECK.due("3: a text with an error", -100, x::load);
        CHECK.due("22: circuits(1)", 1, () -> x.circuits(1));
    }

    private static void gains(GainGraphs x, int... due) {
        for (int arc = 0; arc < due.length; arc++) {
            int k = arc;
            CHECK.due("7: arc(" + k + ", 2)", due[k], () -> x.arc(k, 2));
        }
    }

    private static void arcIs(GainGraphs x, int arc, int... due) {
        for (int what = 0; what < 5; what++) {
            int k = what;
            CHECK.due("7: arc(" + arc + ", " + k + ")", due[k], () -> x.arc(arc, k));
        }
    }
}
