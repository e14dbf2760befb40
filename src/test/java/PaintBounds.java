/** Promises 36 to 44 at their edges. */
final class PaintBounds extends Bounds {
    private static final String NO_VERTEX = "Throws `IndexOutOfBoundsException` if there is no such vertex";
    private static final String NO_COLOR = "Throws `IllegalArgumentException` if color is out of range";
    private static final String COLOR = "- `color`: 0 to M * the palette";

    private static GainGraphs painted(String text, int colors, int... paint) {
        GainGraphs x = of(text);
        x.setPalette(colors);
        for (int vertex = 0; vertex < paint.length; vertex++) {
            if (paint[vertex] != NONE && x.paint(vertex, paint[vertex]) == CLASH) {
                throw new IllegalStateException("the test's own paint clashes");
            }
        }
        return x;
    }

    // Promises 36 and 37.

    @Sentence(at = "36", says = "Sets the palette;")
    void thePalette() {
        GainGraphs x = of("graph 8 12");
        x.setPalette(5);
        is(5, () -> x.count(5));
        is(61, () -> x.choices(7));
        x.setPalette(1);
        is(1, () -> x.count(5));
        is(13, () -> x.choices(7));
    }

    @Sentence(at = "36", says = "no vertex is painted any more (an action).")
    void noPaintLeft() {
        GainGraphs x = painted("graph 8 12", 5, 60, 59, 58, 57, 56, 55, 54, 0);
        is(8, () -> x.count(6));
        is(5, () -> x.setPalette(5));
        row(x, GainGraphs::painted, NONE, NONE, NONE, NONE, NONE, NONE, NONE, NONE);
        is(8, () -> x.count(4));
        is(7, x::undo);
        row(x, GainGraphs::painted, 60, 59, 58, 57, 56, 55, 54, 0);
        GainGraphs y = painted("graph 1 1", 1, 0);
        is(1, () -> y.setPalette(1));
        is(NONE, () -> y.painted(0));
        is(3, () -> y.count(4));
    }

    @Sentence(at = "36", says = "- `colors`: K, 1 to 5")
    void oneToFive() {
        row(new GainGraphs(), (x, k) -> x.setPalette(k + 1), 1, 1, 2, 3, 4);
    }

    @Sentence(at = "36", says = "Returns the previous palette.")
    void thePreviousPalette() {
        GainGraphs x = new GainGraphs();
        is(1, () -> x.setPalette(5));
        is(5, () -> x.setPalette(5));
        is(5, () -> x.setPalette(1));
        x.undo();
        is(5, () -> x.setPalette(2));
    }

    @Sentence(at = "36", says = "Throws `IllegalArgumentException` if colors is out of range")
    void noPalette() {
        takes(Check.ARGUMENT, 1, 5, GainGraphs::new, GainGraphs::setPalette);
        keeps(() -> painted("graph 2 2", 3, 6), "throws." + Check.ARGUMENT, x -> x.setPalette(0));
        keeps(() -> painted("graph 2 2", 3, 6), "throws." + Check.ARGUMENT, x -> x.setPalette(6));
    }

    @Sentence(at = "37", says = "Returns the color with which a vertex is painted.")
    void theColorOfAVertex() {
        row(painted("graph 8 12", 5, 0, 60, 1, 12, 13, 48, 49, 59), GainGraphs::painted, 0, 60, 1, 12, 13, 48, 49, 59);
        is(1, () -> painted("graph 1 1", 1, 1).painted(0));
    }

    @Sentence(at = "37", says = "NONE if it is not painted.")
    void noColorOfAVertex() {
        is(NONE, () -> new GainGraphs().painted(0));
        is(NONE, () -> of("graph 8 12").painted(7));
        row(painted("graph 3 1", 1, NONE, 0, NONE), GainGraphs::painted, NONE, 0, NONE);
    }

    @Sentence(at = "37", says = NO_VERTEX)
    void noVertexWithPaint() {
        takesVertices(GainGraphs::painted);
    }

    // Promises 38 to 40.

    @Sentence(at = "38", says = "Returns the lowest arc by which a vertex cannot be painted with a color, whatever its paint is now (section 5).")
    void theLowestArc() {
        String twelve = "graph 8 12" + ";arc 0 7 1;arc 7 0 2".repeat(6);
        GainGraphs x = painted(twelve, 5, 60);
        is(0, () -> x.clash(7, 49));
        is(1, () -> x.clash(7, 58));
        is(NONE, () -> x.clash(7, 60));
        GainGraphs last = painted("graph 8 12" + ";arc 0 7 1".repeat(11) + ";arc 7 0 0", 5, 60);
        is(11, () -> last.clash(7, 60));
        is(0, () -> last.clash(7, 49));
        // Its own paint does not count, be it the same color or another, unless a loop is in the way.
        GainGraphs own = painted("graph 2 3;arc 0 1 0;arc 1 1 2;arc 1 1 1", 1, 2, 1);
        is(NONE, () -> own.clash(1, 1));
        is(NONE, () -> own.clash(1, 3));
        is(0, () -> own.clash(1, 2));
        is(1, () -> own.clash(1, 0));
        own.setGain(1, 0);
        is(1, () -> own.clash(1, 1));
        is(0, () -> own.clash(1, 2));
    }

    @Sentence(at = "38", says = COLOR)
    void colorsOfAClash() {
        is(0, () -> of("graph 1 12;arc 0 0 1").clash(0, 0));
        is(NONE, () -> of("graph 1 12;arc 0 0 1").clash(0, 12));
        is(0, () -> of("graph 1 12;arc 0 0 0").clash(0, 12));
        is(NONE, () -> painted("graph 2 12;arc 0 1 11", 5, 60).clash(1, 60));
        is(0, () -> painted("graph 2 12;arc 0 1 11", 5, 60).clash(1, 59));
    }

    @Sentence(at = "38", says = "NONE if it can be painted so.")
    void noClash() {
        is(NONE, () -> new GainGraphs().clash(0, 0));
        is(NONE, () -> of(THREE).clash(1, 0));
        is(NONE, () -> painted("graph 2 2;arc 0 1 0", 1, 0).clash(1, 1));
        is(0, () -> painted("graph 2 2;arc 0 1 0", 1, 0).clash(1, 0));
        is(NONE, () -> painted("graph 3 2;arc 0 1 0", 1, 0).clash(2, 0));
    }

    @Sentence(at = "38", says = NO_VERTEX)
    void noVertexWithAClash() {
        takesVertices((x, vertex) -> x.clash(vertex, 0));
        index(new GainGraphs(), x -> x.clash(2, 3));
    }

    @Sentence(at = "38", says = NO_COLOR)
    void noColorWithAClash() {
        takes(Check.ARGUMENT, 0, 1, () -> of("graph 1 1"), (x, color) -> x.clash(0, color));
        takes(Check.ARGUMENT, 0, 12, () -> of("graph 8 12"), (x, color) -> x.clash(7, color));
        takes(Check.ARGUMENT, 0, 60, () -> painted("graph 8 12", 5), (x, color) -> x.clash(7, color));
    }

    @Sentence(at = "39", says = "Returns with how many colors a vertex could be painted, whatever its paint is now.")
    void countsOfChoices() {
        is(2, () -> of("graph 1 1").choices(0));
        is(61, () -> painted("graph 8 12", 5, 60).choices(0));
        is(0, () -> of("graph 1 12;arc 0 0 0").choices(0));
        is(60, () -> painted("graph 1 12;arc 0 0 11", 5).choices(0));
        is(60, () -> painted("graph 2 12;arc 0 1 11", 5, 60).choices(1));
        is(61, () -> painted("graph 2 12;arc 0 1 11", 5, 60).choices(0));
        // Two arcs that forbid the same color, and two that do not.
        is(60, () -> painted("graph 2 12;arc 0 1 11;arc 1 0 1", 5, 60).choices(1));
        is(59, () -> painted("graph 2 12;arc 0 1 11;arc 1 0 11", 5, 60).choices(1));
        is(60, () -> painted("graph 2 12;arc 0 1 11", 5, 60, 60).choices(1));
        // One arc of each gain: all colors of the same i are forbidden, or 0 alone.
        String fan = "graph 2 3;arc 0 1 0;arc 1 0 1;arc 0 1 1";
        is(4, () -> painted(fan, 2, 6).choices(1));
        is(6, () -> painted(fan, 2, 0).choices(1));
        is(1, () -> painted(fan, 1, 1).choices(1));
        is(0, () -> painted(fan + ";arc 1 1 1", 1, 1).choices(1));
    }

    @Sentence(at = "39", says = NO_VERTEX)
    void noVertexWithChoices() {
        takesVertices(GainGraphs::choices);
    }

    @Sentence(at = "40", says = "Returns how many arcs have two painted ends with colors that must not be (section 4).")
    void countsOfClashes() {
        is(0, () -> new GainGraphs().clashes());
        is(0, () -> of("graph 1 1;arc 0 0 0").clashes());
        GainGraphs x = painted("graph 8 12", 5, 60, NONE, NONE, NONE, NONE, NONE, NONE, 49);
        for (int arc = 0; arc < 12; arc++) {
            int k = arc;
            is(k, x::clashes);
            is(k, () -> x.addArc(0, 7, 1));
        }
        is(12, x::clashes);
        x.setGain(11, 2);
        is(11, x::clashes);
        x.turnArc(0);
        is(11, x::clashes);
        x.clean(7);
        is(0, x::clashes);
        GainGraphs loops = painted("graph 1 12", 5, 1);
        loops.addArc(0, 0, 0);
        loops.addArc(0, 0, 1);
        is(1, loops::clashes);
        GainGraphs zero = painted("graph 2 12", 5, 0, 0);
        zero.addArc(0, 0, 11);
        zero.addArc(1, 0, 11);
        is(2, zero::clashes);
    }

    // Promise 41.

    @Sentence(at = "41", says = "Returns how many proper colorings of the palette have the colors of all painted vertices.")
    void countsOfCompletions() {
        is(2, () -> of("graph 1 1").completions());
        is(1, () -> painted("graph 1 1", 1, 1).completions());
        is(1, () -> painted("graph 8 12", 5, 0, 60, 1, 12, 13, 48, 49, 59).completions());
        is(61, () -> painted("graph 8 12", 5, 0, 60, 1, NONE, 13, 48, 49, 59).completions());
        is(60, () -> painted("graph 2 12;arc 0 1 3", 5, NONE, 60).completions());
        is(0, () -> of("graph 1 1;arc 0 0 0").completions());
        GainGraphs clashing = painted("graph 2 1", 1, 0, 0);
        clashing.addArc(0, 1, 0);
        is(0, clashing::completions);
        GainGraphs loop = painted("graph 2 1", 1, 0);
        loop.addArc(0, 0, 0);
        is(0, loop::completions);
        is(6, () -> painted("graph 3 1;arc 0 1 0;arc 1 2 0;arc 2 0 0", 2).completions());
        // Forward from 0 and backward from 2 the same color is forbidden, then two of them, round the end of their gains.
        is(3, () -> painted("graph 3 3;arc 0 1 1;arc 1 2 1", 1, 3, NONE, 2).completions());
        is(2, () -> painted("graph 3 3;arc 0 1 1;arc 1 2 1", 1, 3, NONE, 3).completions());
        is(2, () -> painted("graph 3 3;arc 0 1 1;arc 2 1 1", 1, 3, NONE, 2).completions());
        is(0, () -> painted("graph 3 1;arc 0 1 0;arc 1 2 0;arc 2 0 0", 1).completions());
    }

    @Sentence(at = "41", says = "UNKNOWN if the number of colors to the power of the number of vertices that are not painted is above 200000.")
    void tooManyCompletions() {
        is(175616, () -> painted("graph 3 11", 5).completions());
        is(UNKNOWN, () -> painted("graph 3 12", 5).completions());
        is(194481, () -> painted("graph 4 10", 2).completions());
        is(UNKNOWN, () -> painted("graph 4 7", 3).completions());
        is(161051, () -> painted("graph 5 10", 1).completions());
        is(UNKNOWN, () -> painted("graph 5 11", 1).completions());
        is(117649, () -> painted("graph 6 3", 2).completions());
        is(UNKNOWN, () -> painted("graph 6 7", 1).completions());
        is(78125, () -> painted("graph 7 2", 2).completions());
        is(UNKNOWN, () -> painted("graph 7 5", 1).completions());
        is(65536, () -> painted("graph 8 1", 3).completions());
        is(UNKNOWN, () -> painted("graph 8 1", 4).completions());
        is(78125, () -> painted("graph 8 1", 4, 0).completions());
        is(3721, () -> painted("graph 8 12", 5, 0, 60, 1, 12, 13, 48).completions());
        is(UNKNOWN, () -> painted("graph 8 12", 5, 0, 60, 1, 12, 13).completions());
        // Whatever is forbidden: the power alone decides.
        is(UNKNOWN, () -> painted("graph 8 12;arc 7 7 0", 5).completions());
        GainGraphs clashing = painted("graph 8 12", 5, 0, 0);
        clashing.addArc(0, 1, 0);
        is(UNKNOWN, clashing::completions);
    }

    // Promises 42 to 44.

    @Sentence(at = "42", says = "Paints a vertex, in place of its paint (an action).")
    void paintInPlaceOfPaint() {
        GainGraphs x = painted("graph 8 12", 5, NONE, NONE, NONE, NONE, NONE, NONE, NONE, 60);
        is(1, () -> x.paint(7, 0));
        is(0, () -> x.painted(7));
        is(1, () -> x.paint(7, 0));
        is(4, () -> x.count(4));
        is(3, x::undo);
        is(2, x::undo);
        is(60, () -> x.painted(7));
        is(1, x::undo);
        is(NONE, () -> x.painted(7));
    }

    @Sentence(at = "42", says = COLOR)
    void colorsToPaintWith() {
        is(1, () -> of("graph 1 1").paint(0, 0));
        is(1, () -> of("graph 1 1").paint(0, 1));
        is(60, () -> painted("graph 8 12", 5, 60).painted(0));
        is(CLASH, () -> of("graph 1 12;arc 0 0 0").paint(0, 12));
    }

    @Sentence(at = "42", says = "Returns how many vertices are painted then;")
    void oneToEightPainted() {
        row(of("graph 8 1"), (x, vertex) -> x.paint(vertex, 0), 1, 2, 3, 4, 5, 6, 7, 8);
        is(8, () -> painted("graph 8 1", 1, 0, 0, 0, 0, 0, 0, 0, 0).paint(0, 1));
    }

    @Sentence(at = "42", says = "CLASH if it cannot be painted so.")
    void aClash() {
        Maker two = () -> painted("graph 2 3;arc 0 1 1;arc 1 1 2", 2, 6, 5);
        keeps(two, "-5", x -> x.paint(1, 4));
        keeps(two, "-5", x -> x.paint(1, 0));
        keeps(two, "-5", x -> x.paint(0, 4));
        is(2, () -> two.make().paint(1, 6));
        is(2, () -> two.make().paint(1, 1));
        is(2, () -> two.make().paint(0, 0));
    }

    @Sentence(at = "42", says = NO_VERTEX)
    void noVertexToPaint() {
        takesVertices((x, vertex) -> x.paint(vertex, 0));
        index(new GainGraphs(), x -> x.paint(2, 3));
    }

    @Sentence(at = "42", says = NO_COLOR)
    void noColorToPaintWith() {
        takes(Check.ARGUMENT, 0, 1, () -> of("graph 1 1"), (x, color) -> x.paint(0, color));
        takes(Check.ARGUMENT, 0, 12, () -> of("graph 8 12"), (x, color) -> x.paint(7, color));
        takes(Check.ARGUMENT, 0, 60, () -> painted("graph 8 12", 5), (x, color) -> x.paint(7, color));
        argument(of("graph 1 12;arc 0 0 0"), x -> x.paint(0, 13));
    }

    @Sentence(at = "43", says = "Takes the paint of a vertex away (an action).")
    void paintTakenAway() {
        GainGraphs x = painted("graph 8 12", 5, 60, NONE, NONE, NONE, NONE, NONE, NONE, 1);
        is(1, () -> x.clean(7));
        row(x, GainGraphs::painted, 60, NONE, NONE, NONE, NONE, NONE, NONE, NONE);
        is(4, () -> x.count(4));
        is(3, x::undo);
        is(1, () -> x.painted(7));
    }

    @Sentence(at = "43", says = "NONE if it was not painted.")
    void nothingTakenAway() {
        GainGraphs x = of("graph 8 12");
        is(NONE, () -> x.clean(7));
        is(NONE, () -> x.clean(7));
        is(2, () -> x.count(4));
        is(1, () -> x.paint(7, 0));
        is(0, () -> x.clean(7));
        is(NONE, () -> x.clean(7));
    }

    @Sentence(at = "43", says = NO_VERTEX)
    void noVertexToClean() {
        takesVertices(GainGraphs::clean);
    }

    @Sentence(at = "44", says = "Paints each vertex that is not painted, by numbers, with the least color with which it can be painted,"
            + " if there is one (an action).")
    void theLeastColors() {
        GainGraphs x = of("graph 8 1;arc 0 1 0;arc 2 1 0;arc 2 3 0;arc 3 3 0;arc 3 4 0");
        is(7, x::finish);
        row(x, GainGraphs::painted, 0, 1, 0, NONE, 0, 0, 0, 0);
        is(1, () -> x.count(4));
        is(7, x::finish);
        is(2, () -> x.count(4));
        is(1, x::undo);
        is(0, x::undo);
        is(0, () -> x.count(6));
        GainGraphs loop = painted("graph 3 1;arc 0 1 0;arc 1 2 0;arc 1 1 0", 1);
        is(2, loop::finish);
        row(loop, GainGraphs::painted, 0, NONE, 0);
        // The gain counts from FROM to TO: 2 and the gain 2 forbid 1, and against the arc 3.
        is(2, () -> after("graph 2 3;arc 0 1 2;arc 1 1 1", z -> z.paint(0, 2) + z.finish()).painted(1));
        is(1, () -> after("graph 2 3;arc 1 0 2;arc 1 1 1", z -> z.paint(0, 2) + z.finish()).painted(1));
        is(3, () -> after("graph 2 3;arc 0 1 2;arc 0 1 0;arc 1 1 1", z -> z.paint(0, 2) + z.finish()).painted(1));
        // Vertex 5 beside five painted ones: the last color is left, or none.
        String ring = "graph 6 1;arc 0 5 0;arc 1 5 0;arc 2 5 0;arc 3 5 0;arc 4 5 0";
        GainGraphs five = painted(ring, 5, 0, 1, 2, 3, 4);
        is(6, five::finish);
        is(5, () -> five.painted(5));
        GainGraphs none = painted(ring, 4, 0, 1, 2, 3, 4);
        is(5, none::finish);
        is(NONE, () -> none.painted(5));
        GainGraphs high = painted("graph 6 12;arc 0 5 0;arc 1 5 0;arc 2 5 0;arc 3 5 0;arc 5 5 1", 5, 1, 2, 3, 5);
        is(6, high::finish);
        row(high, GainGraphs::painted, 1, 2, 3, 5, 0, 4);
    }

    @Sentence(at = "44", says = "Returns how many vertices are painted then.")
    void zeroToEightPainted() {
        is(8, () -> of("graph 8 12").finish());
        is(8, () -> painted("graph 8 12", 5, 60, 60, 60, 60, 60, 60, 60, 60).finish());
        is(0, () -> of("graph 1 1;arc 0 0 0").finish());
        is(0, () -> of("graph 2 12;arc 0 0 0;arc 1 1 0").finish());
    }
}
