/** Promises 36 to 44: the palette and the paint of vertices. */
public final class PaintTest {
    private static final Check CHECK = new Check();

    public static void main(String[] args) {
        palette();
        clashes();
        paintAndClean();
        choicesAndFinish();
        completions();
        badNumbers();
        stays();
        CHECK.finish();
    }

    private static void palette() {
        GainGraphs x = Check.of("graph 3 4;arc 0 1 1");
        CHECK.due("36: setPalette(3)", 1, () -> x.setPalette(3));
        CHECK.due("36: the palette", 3, () -> x.count(5));
        CHECK.due("42: the last color", 1, () -> x.paint(2, 12));
        CHECK.due("36: setPalette(5)", 3, () -> x.setPalette(5));
        CHECK.due("36: no paint", 0, () -> x.count(6));
        CHECK.due("37: not painted", -1, () -> x.painted(2));
        CHECK.due("36: the same one is an action, too", 5, () -> x.setPalette(5));
        CHECK.due("36: actions", 4, () -> x.count(4));
        CHECK.due("61: undo", 3, x::undo);
        CHECK.due("61: undo", 2, x::undo);
        CHECK.due("61: the paint is back", 12, () -> x.painted(2));
        CHECK.due("61: the palette is back", 3, () -> x.count(5));
    }

    private static void clashes() {
        GainGraphs x = Check.of("graph 4 4;arc 2 3 0;arc 0 1 1;arc 1 0 2;arc 2 2 3;arc 0 1 1;arc 3 3 0");
        x.setPalette(2);
        CHECK.due("42: paint", 1, () -> x.paint(0, 3));
        clash(x, 1, 4, 1);
        clash(x, 1, 1, 2);
        clash(x, 1, 2, -1);
        clash(x, 1, 3, -1);
        clash(x, 1, 0, -1);
        clash(x, 1, 8, -1);
        clash(x, 0, 3, -1);
        clash(x, 0, 0, -1);
        clash(x, 2, 0, 3);
        clash(x, 2, 5, -1);
        clash(x, 3, 0, 5);
        clash(x, 3, 7, 5);
        x.paint(1, 0);
        clash(x, 0, 0, 1);
        clash(x, 0, 8, -1);
        x.paint(1, 5);
        clash(x, 0, 8, 1);
        clash(x, 0, 7, 2);
        clash(x, 0, 3, -1);
        clash(x, 0, 4, -1);
        x.paint(2, 6);
        clash(x, 3, 6, 0);
    }

    private static void clash(GainGraphs x, int vertex, int color, int due) {
        CHECK.due("38: clash(" + vertex + ", " + color + ")", due, () -> x.clash(vertex, color));
    }

    private static void paintAndClean() {
        GainGraphs x = Check.of("graph 3 4;arc 0 1 1;arc 2 2 0");
        CHECK.due("42: paint(0, 4)", 1, () -> x.paint(0, 4));
        CHECK.due("42: paint(1, 1) clashes", -5, () -> x.paint(1, 1));
        CHECK.due("42: and changes nothing", -1, () -> x.painted(1));
        CHECK.due("42: and is no action", 1, () -> x.count(4));
        CHECK.due("42: paint(1, 2)", 2, () -> x.paint(1, 2));
        CHECK.due("37: painted(1)", 2, () -> x.painted(1));
        CHECK.due("42: paint(0, 1) clashes", -5, () -> x.paint(0, 1));
        CHECK.due("37: painted(0) stays", 4, () -> x.painted(0));
        CHECK.due("42: in place of its paint", 2, () -> x.paint(0, 0));
        CHECK.due("42: 0 beside 0 clashes", -5, () -> x.paint(1, 0));
        CHECK.due("42: the same paint again is an action", 2, () -> x.paint(0, 0));
        CHECK.due("42: actions", 4, () -> x.count(4));
        CHECK.due("42: a loop of gain 0", -5, () -> x.paint(2, 3));
        CHECK.due("43: clean(0)", 0, () -> x.clean(0));
        CHECK.due("37: painted(0)", -1, () -> x.painted(0));
        CHECK.due("43: clean(0) again", -1, () -> x.clean(0));
        CHECK.due("43: is an action, too", 6, () -> x.count(4));
        CHECK.due("43: clean(1)", 2, () -> x.clean(1));
        CHECK.due("6: none is painted", 0, () -> x.count(6));
        x.undo();
        CHECK.due("61: the paint is back", 2, () -> x.painted(1));
        x.undo();
        x.undo();
        CHECK.due("61: the paint is back", 0, () -> x.painted(0));
    }

    private static void choicesAndFinish() {
        GainGraphs x = Check.of("graph 5 3;arc 0 1 1;arc 1 0 1;arc 1 2 0;arc 3 3 1;arc 4 4 0;arc 2 3 2");
        x.setPalette(2);
        int[] free = {7, 7, 7, 6, 0};
        choices(x, free);
        x.paint(1, 2);
        choices(x, 5, 7, 6, 6, 0);
        x.paint(0, 2);
        choices(x, 5, 5, 6, 6, 0);
        x.paint(0, 6);
        choices(x, 5, 5, 6, 6, 0);
        x.clean(0);
        CHECK.due("44: finish", 4, x::finish);
        int[] due = {0, 2, 0, 1, -1};
        for (int vertex = 0; vertex < 5; vertex++) {
            int v = vertex;
            CHECK.due("44: painted(" + v + ")", due[v], () -> x.painted(v));
        }
        CHECK.due("44: is an action", 6, () -> x.count(4));
        CHECK.due("44: finish with nothing to do", 4, x::finish);
        CHECK.due("44: is an action, too", 7, () -> x.count(4));
        x.undo();
        x.undo();
        CHECK.due("61: before finish", 1, () -> x.count(6));
        GainGraphs y = Check.of("graph 3 1;arc 0 1 0;arc 1 2 0;arc 2 0 0");
        CHECK.due("44: too few colors for the third", 2, y::finish);
        CHECK.due("44: by numbers", 0, () -> y.painted(0));
        CHECK.due("44: by numbers", 1, () -> y.painted(1));
        CHECK.due("44: none for it", -1, () -> y.painted(2));
        GainGraphs z = Check.of("graph 2 12;arc 0 1 0;arc 0 0 1;arc 1 1 1");
        z.setPalette(5);
        choices(z, 60, 60);
        z.paint(0, 60);
        choices(z, 60, 59);
    }

    private static void choices(GainGraphs x, int... due) {
        for (int vertex = 0; vertex < due.length; vertex++) {
            int v = vertex;
            CHECK.due("39: choices(" + v + ")", due[v], () -> x.choices(v));
        }
    }

    private static void completions() {
        GainGraphs x = Check.of("graph 3 2;arc 0 1 0;arc 1 2 1");
        CHECK.due("41: all", 12, x::completions);
        x.paint(1, 0);
        CHECK.due("41: from 0 in the middle", 4, x::completions);
        x.paint(0, 2);
        CHECK.due("41: one is left", 2, x::completions);
        x.paint(2, 1);
        CHECK.due("41: none is left", 1, x::completions);
        x.addArc(0, 2, 1);
        CHECK.due("40: a clash", 1, x::clashes);
        CHECK.due("41: with a clash", 0, x::completions);
        GainGraphs y = Check.of("graph 4 10;arc 3 3 0");
        y.setPalette(2);
        CHECK.due("41: 194481 are not too many", 0, y::completions);
        y.dropArc(0);
        CHECK.due("41: all of them", 194481, y::completions);
        y.addVertex();
        CHECK.due("41: too many", -4, y::completions);
        y.paint(2, 20);
        CHECK.due("41: not behind the paint", 194481, y::completions);
        y.addArc(2, 2, 0);
        CHECK.due("41: a clash at a loop", 0, y::completions);
        y.clean(2);
        CHECK.due("41: too many comes first", -4, y::completions);
        GainGraphs z = Check.of("graph 8 3;arc 0 1 1;arc 7 0 2");
        CHECK.due("41: as many as colorings(1)", z.colorings(1), z::completions);
        z.paint(7, 3);
        z.paint(0, 0);
        CHECK.due("41: of two painted vertices", 3 * 1024, z::completions);
        CHECK.due("41: too many at first", -4, () -> Check.of("graph 8 4").completions());
    }

    private static void badNumbers() {
        GainGraphs x = Check.of("graph 3 4;arc 0 1 1");
        for (int vertex : new int[] {-1, 3, 8, Integer.MIN_VALUE}) {
            CHECK.refused("37: painted(" + vertex + ")", Check.INDEX, () -> x.painted(vertex));
            CHECK.refused("38: clash(" + vertex + ", 9)", Check.INDEX, () -> x.clash(vertex, 9));
            CHECK.refused("39: choices(" + vertex + ")", Check.INDEX, () -> x.choices(vertex));
            CHECK.refused("42: paint(" + vertex + ", 9)", Check.INDEX, () -> x.paint(vertex, 9));
            CHECK.refused("43: clean(" + vertex + ")", Check.INDEX, () -> x.clean(vertex));
        }
        for (int color : new int[] {-1, 5, 61, Integer.MAX_VALUE}) {
            CHECK.refused("38: clash(0, " + color + ")", Check.ARGUMENT, () -> x.clash(0, color));
            CHECK.refused("42: paint(0, " + color + ")", Check.ARGUMENT, () -> x.paint(0, color));
        }
        for (int colors : new int[] {-1, 0, 6, Integer.MIN_VALUE}) {
            CHECK.refused("36: setPalette(" + colors + ")", Check.ARGUMENT, () -> x.setPalette(colors));
        }
        CHECK.due("6: none of these was an action", 0, () -> x.count(4));
        CHECK.due("6: the palette stays", 1, () -> x.count(5));
    }

    private static void stays() {
        GainGraphs x = Check.of("graph 3 4;arc 0 1 1;arc 2 2 1");
        x.paint(0, 1);
        x.paint(1, 1);
        x.paint(2, 2);
        CHECK.due("40: no clash", 0, x::clashes);
        x.setGain(0, 0);
        CHECK.due("40: paint stays when gains change", 1, x::clashes);
        x.setGain(1, 0);
        CHECK.due("40: a loop counts once", 2, x::clashes);
        x.addArc(1, 0, 0);
        CHECK.due("40: a further arc", 3, x::clashes);
        x.clean(0);
        CHECK.due("40: both ends must be painted", 1, x::clashes);
        x.turnArc(0);
        x.dropArc(1);
        CHECK.due("40: paint stays when arcs change", 1, () -> x.painted(1));
        CHECK.due("40: without the loop", 0, x::clashes);
        CHECK.due("42: a clashing vertex can still be painted anew", 2, () -> x.paint(2, 2));
    }
}
