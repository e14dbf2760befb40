/** Sections 5 and 6 of the terms at their edges: painting, actions, errors. */
final class StateBounds extends Bounds {
    /** At each limit: no further arc, vertex or byte; arc 11 is a loop, vertex 0 and 1 are painted, slot 0 is saved. */
    private static GainGraphs full() {
        GainGraphs x = of("graph 8 12;arc 0 1 1;arc 1 2 2;arc 2 3 3;arc 3 4 4;arc 4 5 5;arc 5 6 6;arc 6 7 7;arc 7 0 8;arc 0 4 9"
                + ";arc 4 0 10;arc 7 7 11;arc 3 3 5 12;mark 0 10 11");
        x.setPalette(2);
        x.paint(0, 24);
        x.paint(1, 3);
        x.saveSnapshot(0);
        x.switchAt(1, 5);
        x.setWeight(4, 50);
        x.mark(7);
        Check.append(x, "graph 2 2;arc 0 1 1" + " ".repeat(381));
        return x;
    }

    @Sentence(at = "T5", says = "There is a palette K (1 to 5;")
    void thePalette() {
        GainGraphs x = new GainGraphs();
        is(1, () -> x.setPalette(1));
        is(1, () -> x.setPalette(5));
        is(5, () -> x.count(5));
        argument(x, y -> y.setPalette(0));
        argument(x, y -> y.setPalette(6));
        is(5, () -> x.count(5));
    }

    @Sentence(at = "T5", says = "at first 1), and each vertex can be painted with a color of it (at first none is).")
    void atFirst() {
        GainGraphs x = new GainGraphs();
        is(1, () -> x.count(5));
        row(x, GainGraphs::painted, NONE, NONE);
        is(1, () -> x.paint(1, 2));
        argument(x, y -> y.paint(0, 3));
        GainGraphs eight = of("graph 8 12");
        is(1, () -> eight.count(5));
        is(0, () -> eight.count(6));
        row(eight, GainGraphs::painted, NONE, NONE, NONE, NONE, NONE, NONE, NONE, NONE);
        eight.setPalette(5);
        row(eight, (y, v) -> y.paint(v, 60 - v), 1, 2, 3, 4, 5, 6, 7, 8);
        row(eight, GainGraphs::painted, 60, 59, 58, 57, 56, 55, 54, 53);
        argument(eight, y -> y.paint(7, 61));
    }

    @Sentence(at = "T5", says = "A vertex can be painted with a color if no arc joins it with a painted vertex other than it, or with itself,"
            + " as must not be by section 4.")
    void whatCanBePainted() {
        GainGraphs x = of("graph 3 3;arc 0 1 1;arc 2 2 0;arc 1 1 2");
        is(1, () -> x.paint(0, 3));
        is(CLASH, () -> x.paint(1, 1));
        is(CLASH, () -> x.paint(1, 0));
        is(2, () -> x.paint(1, 2));
        is(2, () -> x.paint(1, 3));
        // Its own former paint does not count, only that of others.
        is(2, () -> x.paint(0, 0));
        is(2, () -> x.paint(0, 1));
        is(CLASH, () -> x.paint(0, 2));
        for (int color = 0; color <= 3; color++) {
            int c = color;
            is(CLASH, () -> x.paint(2, c));
        }
        is(1, () -> x.clean(0));
        is(1, () -> x.paint(1, 1));
    }

    @Sentence(at = "T5", says = "Paint stays when arcs or gains change.")
    void paintStays() {
        Act[] acts = {x -> x.setGain(0, 0), x -> x.setGain(0, 2), x -> x.turnArc(0), x -> x.addArc(0, 1, 0), x -> x.addArc(1, 1, 0),
            x -> x.dropArc(0), x -> x.setWeight(0, 0), x -> x.mark(1), x -> x.addVertex()};
        for (Act act : acts) {
            GainGraphs x = of("graph 3 3;arc 0 1 1");
            x.setPalette(2);
            x.paint(0, 6);
            x.paint(1, 6);
            act.on(x);
            row(x, GainGraphs::painted, 6, 6, NONE);
            is(2, () -> x.count(6));
        }
    }

    @Sentence(at = "T5", says = "When a vertex is switched by a number (also by a contraction), its color i, x becomes i, x plus this number;")
    void switchedPaint() {
        int[][] cases = {{1, 0, 1}, {1, 1, 2}, {1, 3, 4}, {4, 1, 1}, {4, 3, 3}, {5, 3, 8}, {8, 1, 5}, {8, 3, 7}, {0, 3, 0}, {0, 0, 0}, {20, 1, 17}};
        for (int[] row : cases) {
            GainGraphs x = of("graph 2 4;arc 1 1 2");
            x.setPalette(5);
            x.paint(0, row[0]);
            is(0, () -> x.switchAt(0, row[1]));
            is(row[2], () -> x.painted(0));
            is(NONE, () -> x.painted(1));
        }
        // A contraction switches TO, whose paint goes; no other vertex is switched by it.
        GainGraphs x = of("graph 3 4;arc 0 1 1;arc 2 1 3");
        x.paint(0, 1);
        x.paint(1, 1);
        x.paint(2, 1);
        is(2, () -> x.contract(0));
        row(x, GainGraphs::painted, 1, 1);
        is(2, () -> x.arc(0, 2));
        is(NONE, () -> after("graph 2 4", y -> y.switchAt(0, 3)).painted(0));
    }

    @Sentence(at = "T5", says = "when TO becomes one vertex with FROM, its paint goes.")
    void thePaintOfToGoes() {
        GainGraphs x = of("graph 2 4;arc 0 1 1");
        x.paint(1, 3);
        is(1, () -> x.contract(0));
        is(NONE, () -> x.painted(0));
        is(0, () -> x.count(6));
        GainGraphs y = of("graph 2 4;arc 1 0 1");
        y.paint(1, 3);
        y.paint(0, 1);
        is(1, () -> y.contract(0));
        is(3, () -> y.painted(0));
        is(1, () -> y.count(6));
    }

    @Sentence(at = "T5", says = "A new vertex is not painted.")
    void aNewVertex() {
        GainGraphs x = of("graph 7 2");
        x.finish();
        is(7, () -> x.count(6));
        is(7, x::addVertex);
        is(NONE, () -> x.painted(7));
        GainGraphs y = of("graph 8 2;arc 0 7 0");
        y.paint(7, 1);
        is(7, () -> y.contract(0));
        is(7, y::addVertex);
        is(NONE, () -> y.painted(7));
        GainGraphs z = of("graph 7 2");
        z.addVertex();
        z.paint(7, 1);
        z.undo();
        z.undo();
        is(7, () -> z.count(0));
        is(7, z::addVertex);
        is(NONE, () -> z.painted(7));
    }

    // Section 6.

    @Sentence(at = "T6", says = "The methods that are called actions can be taken back: the latest 8 of them that did not return an error"
            + " (FULL, LOOP, UNKNOWN or CLASH;")
    void theLatestEight() {
        for (int actions : new int[] {0, 1, 7, 8, 9, 16, 17}) {
            GainGraphs x = of("graph 2 12;arc 0 1 0 50");
            for (int k = 1; k <= actions; k++) {
                x.setWeight(0, 50 + k);
            }
            int kept = Math.min(actions, 8);
            is(kept, () -> x.count(4));
            for (int left = kept - 1; left >= 0; left--) {
                int due = left;
                is(due, x::undo);
                is(50 + actions - kept + due, () -> x.arc(0, 3));
            }
            is(NONE, x::undo);
            is(50 + actions - kept, () -> x.arc(0, 3));
        }
        GainGraphs x = full();
        int actions = x.count(4);
        is(FULL, () -> x.addArc(0, 0, 0));
        is(FULL, x::addVertex);
        is(LOOP, () -> x.contract(11));
        is(CLASH, () -> x.paint(7, 0));
        is(actions, () -> x.count(4));
        is(actions - 1, x::undo);
        is(3, () -> Integer.bitCount(x.marked()));
        is(true, () -> x.marked() != 7);
    }

    @Sentence(at = "T6", says = "NONE is none).")
    void noneIsNoError() {
        GainGraphs x = new GainGraphs();
        is(NONE, () -> x.clean(1));
        is(1, () -> x.count(4));
        is(0, x::undo);
        is(NONE, x::undo);
    }

    @Sentence(at = "T6", says = "An action counts also if it changes nothing.")
    void actionsThatChangeNothing() {
        Act[] acts = {x -> x.setPalette(1), x -> x.paint(0, 1), x -> x.clean(1), GainGraphs::finish, x -> x.setGain(0, 0),
            x -> x.setWeight(0, 1), x -> x.turnArc(1), x -> x.mark(2), GainGraphs::markClosure};
        for (int k = 0; k < acts.length; k++) {
            // Vertex 1 has no color left, so that finish() has nothing to paint.
            GainGraphs x = of("graph 2 2;arc 0 1 0;arc 1 1 0;mark 1");
            if (k != 0) {
                x.paint(0, 1);
            }
            int before = x.count(4);
            String seen = scene(x);
            acts[k].on(x);
            is(before + 1, () -> x.count(4));
            same(seen, scene(x));
            is(before, x::undo);
        }
        GainGraphs x = of("graph 2 2;arc 0 1 0");
        is(0, () -> x.switchAt(1, 0));
        is(1, () -> x.count(4));
        is(1, () -> x.total(0));
        is(0, x::undo);
    }

    @Sentence(at = "T6", says = "A method that returns FULL, LOOP, UNKNOWN or CLASH or throws an exception changes nothing,"
            + " except as load() says.")
    void whatIsRefusedChangesNothing() {
        Maker full = StateBounds::full;
        keeps(full, "-2", x -> x.append(1));
        keeps(full, "-2", x -> x.append(-1L));
        keeps(full, "-2", x -> x.addArc(0, 1, 11));
        keeps(full, "-2", x -> x.addVertex());
        keeps(full, "-3", x -> x.contract(11));
        keeps(full, "-3", x -> x.coloringsMerged(10, 5));
        keeps(full, "-4", x -> x.colorAt(1, 0, 7));
        keeps(full, "-4", x -> x.completions());
        keeps(full, "-5", x -> x.paint(7, 0));
        keeps(full, "-5", x -> x.paint(1, 18));
        String index = "throws." + Check.INDEX;
        for (Act act : badIndexes()) {
            keeps(full, index, act);
        }
        String argument = "throws." + Check.ARGUMENT;
        for (Act act : badArguments()) {
            keeps(full, argument, act);
        }
    }

    private static Act[] badIndexes() {
        return new Act[] {x -> x.arc(12, 0), x -> x.between(8, 0), x -> x.between(0, 8), x -> x.componentOf(0, 8),
            x -> one(x.isBalancedAt(0, 8)), x -> x.potential(0, 8), x -> x.walk(8, 0, 0, 0), x -> x.walk(0, 12, 0, 0),
            x -> x.walk(0, 0, 12, 0), x -> x.walk(0, 0, 0, 12), x -> one(x.isBridge(12)), x -> x.colorAt(1, 0, 8), x -> x.painted(8),
            x -> x.clash(8, 0), x -> x.choices(8), x -> x.paint(8, 0), x -> x.clean(8), x -> x.normalGain(12), x -> x.basesWithout(12),
            x -> x.coloringsWithout(12, 1), x -> x.coloringsMerged(12, 1), x -> x.addArc(8, 0, 0), x -> x.addArc(0, 8, 0),
            x -> x.dropArc(12), x -> x.setGain(12, 0), x -> x.setWeight(12, 0), x -> x.turnArc(12), x -> x.switchAt(8, 0),
            x -> x.contract(12)};
    }

    private static Act[] badArguments() {
        return new Act[] {x -> x.count(7), x -> x.arc(0, 5), x -> x.components(4096), x -> x.componentOf(4096, 0),
            x -> one(x.isBalanced(4096)), x -> one(x.isBalancedAt(4096, 0)), x -> x.potential(4096, 0), x -> x.rank(4096),
            x -> x.closure(4096), x -> x.balancedClosure(4096), x -> one(x.isFlat(4096)), x -> one(x.isIndependent(4096)),
            x -> x.circuitKind(4096), x -> x.circuits(13), x -> x.cycles(13, true), x -> x.flats(9), x -> x.weight(4096),
            x -> x.colorings(6), x -> x.zeroFree(6), x -> x.coefficient(9), x -> x.colorAt(6, 0, 0), x -> x.colorAt(1, -1, 0),
            x -> one(x.isProper(6, 0)), x -> one(x.isProper(1, -1)), x -> one(x.isProper(1, 815730721)), x -> x.setPalette(6),
            x -> x.clash(0, 25), x -> x.paint(0, 25), x -> one(x.isLike(2)), x -> x.coloringsWithout(0, 6), x -> x.coloringsMerged(0, 6),
            x -> x.addArc(0, 0, 12), x -> x.setGain(0, 12), x -> x.setWeight(0, 100), x -> x.switchAt(0, 12), x -> x.mark(4096),
            x -> x.total(4), x -> x.saveSnapshot(2), x -> x.restoreSnapshot(2)};
    }

    @Sentence(at = "T6", says = "If several exceptions apply, the one that is named first is thrown;")
    void theExceptionNamedFirst() {
        Act[] acts = {x -> x.arc(12, 5), x -> x.componentOf(4096, 8), x -> one(x.isBalancedAt(-1, -1)), x -> x.potential(4096, 8),
            x -> x.colorAt(6, -1, 8), x -> x.clash(8, 25), x -> x.paint(-1, -1), x -> x.coloringsWithout(12, 6),
            x -> x.coloringsMerged(12, 0), x -> x.addArc(8, 0, 12), x -> x.addArc(0, 8, -1), x -> x.setGain(12, 12),
            x -> x.setWeight(12, 100), x -> x.switchAt(8, 12)};
        for (Act act : acts) {
            index(full(), act);
        }
    }

    @Sentence(at = "T6", says = "exceptions come before errors.")
    void exceptionsComeBeforeErrors() {
        index(full(), x -> x.addArc(8, 0, 0));
        index(full(), x -> x.addArc(0, -1, 0));
        argument(full(), x -> x.addArc(0, 0, 12));
        argument(full(), x -> x.coloringsMerged(11, 0));
        argument(full(), x -> x.coloringsMerged(11, 6));
        argument(full(), x -> x.colorAt(1, -1, 0));
        argument(full(), x -> x.colorAt(0, 0, 0));
        index(full(), x -> x.colorAt(5, 0, 8));
        GainGraphs x = of("graph 2 2;arc 0 0 0");
        is(CLASH, () -> x.paint(0, 2));
        argument(x, y -> y.paint(0, 3));
        argument(x, y -> y.paint(0, -1));
        index(of("graph 1 2;arc 0 0 0"), y -> y.contract(1));
    }

    @Sentence(at = "T6", says = "Predictions change nothing.")
    void predictionsChangeNothing() {
        Maker full = StateBounds::full;
        GainGraphs x = full();
        String bases = Check.answerOf(() -> x.basesWithout(0));
        String without = Check.answerOf(() -> x.coloringsWithout(11, 5));
        String merged = Check.answerOf(() -> x.coloringsMerged(0, 1));
        keeps(full, bases, y -> y.basesWithout(0));
        keeps(full, without, y -> y.coloringsWithout(11, 5));
        keeps(full, merged, y -> y.coloringsMerged(0, 1));
    }

    @Sentence(at = "T6", says = "The constants: `NONE = -1`: There is no such thing.")
    void none() {
        same(-1, GainGraphs.NONE);
        is(GainGraphs.NONE, () -> new GainGraphs().undo());
    }

    @Sentence(at = "T6", says = "`FULL = -2`: A limit would be exceeded.")
    void full8And12And400() {
        same(-2, GainGraphs.FULL);
        is(GainGraphs.FULL, () -> full().addVertex());
        is(GainGraphs.FULL, () -> full().addArc(0, 0, 0));
        is(GainGraphs.FULL, () -> full().append(255));
    }

    @Sentence(at = "T6", says = "`LOOP = -3`: An arc is a loop.")
    void loop() {
        same(-3, GainGraphs.LOOP);
        is(GainGraphs.LOOP, () -> of("graph 1 1;arc 0 0 0").contract(0));
    }

    @Sentence(at = "T6", says = "`UNKNOWN = -4`: There are too many colorings.")
    void unknown() {
        same(-4, GainGraphs.UNKNOWN);
        is(GainGraphs.UNKNOWN, () -> of("graph 8 4").completions());
    }

    @Sentence(at = "T6", says = "`CLASH = -5`: A color clashes with another one.")
    void clash() {
        same(-5, GainGraphs.CLASH);
        is(GainGraphs.CLASH, () -> of("graph 1 1;arc 0 0 0").paint(0, 1));
    }
}
