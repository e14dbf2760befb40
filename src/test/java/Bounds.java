/**
 * What the tests of single sentences share: questions with the answers that are due, refused calls (which must also
 * change nothing that can be seen), and arguments at the limits of their ranges.
 */
abstract class Bounds {
    interface Maker {
        GainGraphs make();
    }

    /** A call with one number, the others chosen; a boolean is told as 1 or 0 by one(..). */
    interface Ask {
        long of(GainGraphs x, int number);
    }

    interface Act {
        long on(GainGraphs x);
    }

    static final int NONE = -1;
    static final int FULL = -2;
    static final int LOOP = -3;
    static final int UNKNOWN = -4;
    static final int CLASH = -5;

    static final String THREE = "graph 3 4;arc 0 1 1;arc 1 2 2;arc 0 0 3";
    /** A ring of all eight vertices, three loops and a second arc beside the first one. */
    static final String TWELVE = "graph 8 12;arc 0 1 1;arc 1 2 2;arc 2 3 3;arc 3 4 4;arc 4 5 5;arc 5 6 6;arc 6 7 7;arc 7 0 8"
            + ";arc 0 0 0;arc 1 1 11;arc 7 7 1;arc 1 0 11";

    private Check check;
    private String label;
    private int asked = 0;

    void begin(Check newCheck, String newLabel) {
        check = newCheck;
        label = newLabel;
    }

    int asked() {
        return asked;
    }

    private void told(String want, String got) {
        asked++;
        check.told(label + " [" + asked + "]", want, got);
    }

    static long one(boolean answer) {
        return answer ? 1 : 0;
    }

    static GainGraphs of(String text) {
        return Check.of(text);
    }

    void is(long want, Check.Call got) {
        told(Long.toString(want), Check.answerOf(got));
    }

    void is(boolean want, Check.Question got) {
        is(one(want), () -> one(got.answer()));
    }

    /** Each number of a row is the answer of the call with its place in the row. */
    void row(GainGraphs x, Ask ask, long... want) {
        for (int place = 0; place < want.length; place++) {
            int k = place;
            is(want[k], () -> ask.of(x, k));
        }
    }

    void same(Object want, Object got) {
        told(String.valueOf(want), String.valueOf(got));
    }

    // Texts.

    void reads(String text, int arcs) {
        GainGraphs x = new GainGraphs();
        is(arcs, () -> Check.load(x, text));
        is(0, x::loadError);
        is(NONE, x::loadStatement);
    }

    void fails(String text, int position, int kind, int statement) {
        GainGraphs x = new GainGraphs();
        is(-100 - position, () -> Check.load(x, text));
        is(kind, x::loadError);
        is(statement, x::loadStatement);
    }

    // Refused calls.

    /** The exception is thrown, and nothing that can be seen has changed. */
    void index(GainGraphs x, Act act) {
        refused(Check.INDEX, x, act);
    }

    void argument(GainGraphs x, Act act) {
        refused(Check.ARGUMENT, x, act);
    }

    private void refused(String exception, GainGraphs x, Act act) {
        String before = look(x);
        told("throws." + exception, Check.answerOf(() -> act.on(x)));
        told(before, look(x));
    }

    /** All numbers from least to most are taken at their ends, and none beyond them. */
    void takes(String exception, int least, int most, Maker maker, Ask ask) {
        for (int good : new int[] {least, most}) {
            GainGraphs x = maker.make();
            told("no exception", Check.answerOf(() -> ask.of(x, good)).startsWith("throws.") ? "an exception for " + good : "no exception");
        }
        refuses(exception, new int[] {least - 1, most + 1, Integer.MIN_VALUE, Integer.MAX_VALUE}, maker, ask);
    }

    void refuses(String exception, int[] numbers, Maker maker, Ask ask) {
        for (int number : numbers) {
            refused(exception, maker.make(), x -> ask.of(x, number));
        }
    }

    void takesSets(Ask ask) {
        takes(Check.ARGUMENT, 0, 0, () -> of("graph 2 2"), ask);
        takes(Check.ARGUMENT, 0, 1, () -> of("graph 1 1;arc 0 0 0"), ask);
        takes(Check.ARGUMENT, 0, 7, () -> of(THREE), ask);
        takes(Check.ARGUMENT, 0, 4095, () -> of(TWELVE), ask);
        takes(Check.ARGUMENT, 0, 3, () -> after(THREE, x -> x.dropArc(0)), ask);
        takes(Check.ARGUMENT, 0, 15, () -> after(THREE, x -> x.addArc(2, 2, 0)), ask);
        takes(Check.ARGUMENT, 0, 3, () -> after(THREE, x -> x.contract(1)), ask);
    }

    void takesVertices(Ask ask) {
        takes(Check.INDEX, 0, 0, () -> of("graph 1 2"), ask);
        takes(Check.INDEX, 0, 1, GainGraphs::new, ask);
        takes(Check.INDEX, 0, 7, () -> of("graph 8 2"), ask);
        takes(Check.INDEX, 0, 7, () -> after("graph 7 2", GainGraphs::addVertex), ask);
        takes(Check.INDEX, 0, 1, () -> after(THREE, x -> x.contract(0)), ask);
    }

    void takesArcs(Ask ask) {
        refuses(Check.INDEX, new int[] {-2, 0, 1, 12, Integer.MIN_VALUE, Integer.MAX_VALUE}, () -> of("graph 2 2"), ask);
        takes(Check.INDEX, 0, 0, () -> of("graph 2 1;arc 0 1 0"), ask);
        takes(Check.INDEX, 0, 11, () -> of(TWELVE), ask);
        takes(Check.INDEX, 0, 10, () -> after(TWELVE, x -> x.dropArc(11)), ask);
        takes(Check.INDEX, 0, 3, () -> after(THREE, x -> x.addArc(2, 2, 0)), ask);
        takes(Check.INDEX, 0, 1, () -> after(THREE, x -> x.contract(0)), ask);
    }

    void takesGains(Ask ask) {
        takes(Check.ARGUMENT, 0, 0, () -> of("graph 2 1;arc 0 1 0"), ask);
        takes(Check.ARGUMENT, 0, 11, () -> of("graph 2 12;arc 0 1 0"), ask);
        takes(Check.ARGUMENT, 0, 3, () -> of(THREE), ask);
    }

    static GainGraphs after(String text, Act act) {
        GainGraphs x = of(text);
        act.on(x);
        return x;
    }

    // What can be seen.

    static String look(GainGraphs x) {
        return x.count(4) + " actions; " + scene(x);
    }

    /** All that questions tell of the graph, its paint, its totals, the buffer and the latest load. */
    static String scene(GainGraphs x) {
        StringBuilder seen = new StringBuilder();
        for (int what = 0; what < 7; what++) {
            seen.append(what == 4 ? 0 : x.count(what)).append(what == 6 ? "; " : " ");
        }
        for (int arc = 0; arc < x.count(2); arc++) {
            for (int what = 0; what < 5; what++) {
                seen.append(x.arc(arc, what)).append(what == 4 ? "; " : " ");
            }
        }
        for (int vertex = 0; vertex < x.count(0); vertex++) {
            seen.append(x.painted(vertex)).append(' ');
        }
        for (int what = 0; what < 4; what++) {
            seen.append(what == 0 ? "; " : " ").append(x.total(what));
        }
        return seen.append("; ").append(x.append(0)).append(' ').append(x.loadError()).append(' ').append(x.loadStatement()).toString();
    }

    /** The call answers so, and an object that was asked it cannot be told from one that was not. */
    void keeps(Maker maker, String want, Act act) {
        told(want, Check.answerOf(() -> act.on(maker.make())));
        for (int part = 0; part <= 11; part++) {
            GainGraphs asked = maker.make();
            Check.answerOf(() -> act.on(asked));
            told(probe(part, maker.make()), probe(part, asked));
        }
    }

    /** What stands now, behind up to eight calls of undo, in each snapshot, and behind a load of the buffer. */
    private static String probe(int part, GainGraphs x) {
        for (int k = 0; k < part && part <= 8; k++) {
            x.undo();
        }
        if (part == 9 || part == 10) {
            x.restoreSnapshot(part - 9);
        }
        if (part == 11) {
            x.load();
        }
        return look(x) + "; " + x.bases() + " " + x.colorings(1);
    }
}
