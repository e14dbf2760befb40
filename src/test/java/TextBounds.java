/** Promises 1 to 9 at their edges. */
final class TextBounds extends Bounds {
    @Sentence(at = "1", says = "Creates a graph as told in section 1, with an empty input buffer and no snapshots.")
    void aNewObject() {
        GainGraphs x = new GainGraphs();
        is(0, () -> x.append(0));
        row(x, GainGraphs::count, 2, 2, 0, 0, 0, 1, 0);
        row(x, GainGraphs::restoreSnapshot, NONE, NONE);
        row(x, (y, slot) -> one(y.isLike(slot)), 0, 0);
        is(-100, x::load);
        same(look(new GainGraphs()).replace("; 0 0 -1", ""), look(x).replace("; 0 1 0", ""));
    }

    // Promise 2.

    private static final long GRAPH_2_1 = 0x6772617068322031L;

    @Sentence(at = "2", says = "Appends bytes to the input buffer: the 8 bytes of a number,")
    void eightBytes() {
        GainGraphs x = new GainGraphs();
        is(8, () -> x.append(Long.MIN_VALUE | 0x0101010101010101L));
        is(16, () -> x.append(Long.MAX_VALUE));
        is(24, () -> x.append(-1L));
        is(25, () -> x.append(Long.MIN_VALUE));
        is(26, () -> x.append(1L));
        is(27, () -> x.append(0x0100000000L));
    }

    @Sentence(at = "2", says = "the most significant byte first,")
    void theMostSignificantByteFirst() {
        GainGraphs x = new GainGraphs();
        x.append(GRAPH_2_1);
        is(0, x::load);
        is(2, () -> x.count(0));
        is(1, () -> x.count(1));
        x.append(Long.reverseBytes(GRAPH_2_1));
        is(-100, x::load);
    }

    @Sentence(at = "2", says = "where bytes that are 0 are left out.")
    void zeroBytes() {
        GainGraphs x = new GainGraphs();
        is(0, () -> x.append(0));
        is(2, () -> x.append(0x6700000000000072L));
        is(4, () -> x.append(0x0061000070000000L));
        is(8, () -> x.append(0x0000006832203100L));
        is(8, () -> x.append(0));
        is(0, x::load);
        is(2, () -> x.count(0));
        is(1, () -> new GainGraphs().append(0x80L));
        is(1, () -> new GainGraphs().append(0x8000000000000000L));
    }

    @Sentence(at = "2", says = "Returns the new length of the buffer;")
    void theNewLength() {
        GainGraphs x = new GainGraphs();
        for (int k = 1; k <= 50; k++) {
            int length = 8 * k;
            is(length, () -> x.append(GRAPH_2_1));
        }
        x.load();
        is(0, () -> x.append(0));
        is(8, () -> x.append(GRAPH_2_1));
    }

    @Sentence(at = "2", says = "FULL if it would exceed 400.")
    void fourHundredBytes() {
        Maker full = () -> filled(400);
        is(400, () -> full.make().append(0));
        keeps(full, "-2", x -> x.append(1));
        keeps(full, "-2", x -> x.append(Long.MIN_VALUE));
        keeps(full, "-2", x -> x.append(-1L));
        keeps(() -> filled(399), "-2", x -> x.append(0x2020L));
        is(400, () -> filled(399).append(0x20L));
        is(400, () -> filled(399).append(0x2000000000000000L));
        keeps(() -> filled(393), "-2", x -> x.append(0x2020202020202020L));
        is(400, () -> filled(393).append(0x2020202020202000L));
        is(400, () -> filled(392).append(0x2020202020202020L));
        GainGraphs x = filled(393);
        x.append(GRAPH_2_1);
        is(399, () -> x.append(0x202020202020L));
        is(0, x::load);
    }

    /** "graph 2 2" and so many spaces that the buffer has this length. */
    private static GainGraphs filled(int length) {
        GainGraphs x = new GainGraphs();
        Check.append(x, "graph 2 2" + " ".repeat(length - 9));
        return x;
    }

    // Promise 3.

    private static GainGraphs used() {
        GainGraphs x = of("graph 3 4;arc 0 1 3 7;arc 1 2 2;mark 0");
        x.setPalette(3);
        x.paint(2, 12);
        x.switchAt(0, 1);
        x.addArc(1, 1, 1);
        x.saveSnapshot(1);
        x.dropArc(1);
        x.contract(0);
        return x;
    }

    @Sentence(at = "3", says = "Reads the input buffer as a description (section 1) and begins anew;")
    void beginsAnew() {
        String[] texts = {"graph 1 1", "graph 2 2", "graph 8 12;arc 7 7 11 99;mark 0"};
        for (String text : texts) {
            GainGraphs x = used();
            Check.load(x, text);
            same(look(of(text)), look(x));
            row(x, GainGraphs::total, 0, 0, 0, 0);
            is(1, () -> x.count(5));
        }
        GainGraphs x = of("graph 1 2;arc 0 0 1");
        is(0, () -> x.circuits(1));
        Check.load(x, "graph 1 2;arc 0 0 0");
        is(1, () -> x.circuits(1));
        Check.load(x, "graph 1 2;arc 0 0 1;");
        is(1, () -> x.circuits(1));
    }

    @Sentence(at = "3", says = "nothing can be taken back.")
    void nothingCanBeTakenBack() {
        GainGraphs x = used();
        Check.load(x, "graph 2 3");
        is(0, () -> x.count(4));
        is(NONE, x::undo);
        is(3, () -> x.count(1));
    }

    @Sentence(at = "3", says = "The buffer is emptied, also on an error.")
    void theBufferIsEmptied() {
        for (String text : new String[] {"", "graph 2 2", "x", "graph 2 2" + " ".repeat(391), "?".repeat(400)}) {
            GainGraphs x = new GainGraphs();
            Check.load(x, text);
            is(0, () -> x.append(0));
            is(-100, x::load);
            is(9, () -> Check.append(x, "graph 1 1"));
            is(0, x::load);
        }
    }

    @Sentence(at = "3", says = "The snapshots stay.")
    void theSnapshotsStay() {
        GainGraphs x = used();
        Check.load(x, "graph 1 1");
        is(NONE, () -> x.restoreSnapshot(0));
        is(3, () -> x.restoreSnapshot(1));
        row(x, GainGraphs::count, 3, 4, 3, 1, 0, 3, 1);
        Check.load(x, "no text");
        is(3, () -> x.restoreSnapshot(1));
    }

    @Sentence(at = "3", says = "Returns the number of arcs;")
    void theNumberOfArcs() {
        is(0, () -> Check.load(new GainGraphs(), "graph 1 1"));
        is(1, () -> Check.load(new GainGraphs(), "graph 1 1;arc 0 0 0"));
        is(12, () -> Check.load(new GainGraphs(), TWELVE));
        is(12, () -> Check.load(of(TWELVE), TWELVE));
    }

    @Sentence(at = "3", says = "-100 minus the position of the error if the text has one,")
    void thePosition() {
        is(-100, () -> new GainGraphs().load());
        is(-100, () -> Check.load(new GainGraphs(), "x"));
        is(-101, () -> Check.load(new GainGraphs(), " x"));
        is(-499, () -> Check.load(new GainGraphs(), " ".repeat(399) + "x"));
        is(-500, () -> Check.load(new GainGraphs(), " ".repeat(400)));
    }

    @Sentence(at = "3", says = "and then nothing but the buffer and the results of loadError() and loadStatement() changes.")
    void onAnErrorAllElseStays() {
        String[] texts = {"", "graph 0 1", "graph 1 1;", "graph 8 12;arc 7 7 11 99;mark 1", TWELVE + ";arc 0 0 0"};
        for (String text : texts) {
            keeps(() -> {
                GainGraphs x = used();
                Check.load(x, "x");
                return x;
            }, "1", x -> {
                Check.load(x, text);
                Check.load(x, "x");
                return x.loadError();
            });
        }
    }

    // Promises 4 and 5.

    @Sentence(at = "4", says = "Returns the kind of the error of the latest call of load().")
    void theLatestError() {
        GainGraphs x = new GainGraphs();
        Check.load(x, "graph 9 1");
        is(2, x::loadError);
        Check.load(x, TWELVE + ";arc 0 0 0");
        is(3, x::loadError);
        x.addArc(0, 0, 0);
        x.undo();
        is(3, x::loadError);
        Check.load(x, "");
        is(1, x::loadError);
    }

    @Sentence(at = "4", says = "Returns 1 to 3 (section 1);")
    void kindsOfErrors() {
        is(1, () -> errorOf("graph 2 2;arc 0 0 x"));
        is(2, () -> errorOf("graph 2 2;arc 0 0 2"));
        is(3, () -> errorOf(TWELVE + ";arc"));
    }

    private static int errorOf(String text) {
        GainGraphs x = new GainGraphs();
        Check.load(x, text);
        return x.loadError();
    }

    private static int statementOf(String text) {
        GainGraphs x = new GainGraphs();
        Check.load(x, text);
        return x.loadStatement();
    }

    @Sentence(at = "4", says = "0 if the text had no error")
    void noError() {
        is(0, () -> errorOf("graph 1 1"));
        GainGraphs x = new GainGraphs();
        Check.load(x, "x");
        Check.load(x, TWELVE);
        is(0, x::loadError);
    }

    @Sentence(at = "4", says = " or there was no such call.")
    void noErrorBeforeLoad() {
        is(0, () -> new GainGraphs().loadError());
        GainGraphs x = new GainGraphs();
        Check.append(x, "an error that was not read");
        is(0, x::loadError);
    }

    @Sentence(at = "5", says = "Returns in which statement the latest call of load() found its error.")
    void theLatestStatement() {
        GainGraphs x = new GainGraphs();
        Check.load(x, "graph 2 2;x");
        is(1, x::loadStatement);
        Check.load(x, "x");
        is(0, x::loadStatement);
        x.addVertex();
        x.undo();
        is(0, x::loadStatement);
        Check.load(x, "graph 2 2;arc 0 1 0;mark 1");
        is(2, x::loadStatement);
    }

    @Sentence(at = "5", says = "A byte behind a statement that is no semicolon belongs to that statement;")
    void behindAStatement() {
        is(0, () -> statementOf("graph 2 2,arc 0 1 0"));
        is(0, () -> statementOf("graph 2 2 arc 0 1 0"));
        is(1, () -> statementOf("graph 2 2;arc 0 1 0 :"));
        is(1, () -> statementOf("graph 2 2;arc 0 1 0 1 1;"));
        is(2, () -> statementOf("graph 2 2;arc 0 1 0;mark 0 mark 0"));
    }

    @Sentence(at = "5", says = "what follows a semicolon belongs to the next one.")
    void behindASemicolon() {
        is(1, () -> statementOf("graph 2 2;"));
        is(1, () -> statementOf("graph 2 2;  "));
        is(1, () -> statementOf("graph 2 2;;"));
        is(1, () -> statementOf("graph 2 2; ?"));
        is(2, () -> statementOf("graph 2 2;arc 0 1 0;"));
        is(0, () -> statementOf(";"));
    }

    @Sentence(at = "5", says = "Returns the index of the statement, from 0;")
    void theFirstAndTheLastStatement() {
        is(0, () -> statementOf(""));
        is(0, () -> statementOf("graph 2"));
        String marks = "graph 1 1;arc 0 0 0" + ";mark0".repeat(63);
        is(65, () -> statementOf(marks + ";"));
        is(64, () -> statementOf(marks + " 1;"));
        is(13, () -> statementOf(TWELVE + ";arc 0 0 0"));
    }

    @Sentence(at = "5", says = "NONE if the text had no error")
    void noStatement() {
        is(NONE, () -> statementOf("graph 1 1"));
        GainGraphs x = new GainGraphs();
        Check.load(x, "graph 2 2;x");
        Check.load(x, "graph 2 2;arc 0 1 0");
        is(NONE, x::loadStatement);
    }

    @Sentence(at = "5", says = " or there was no such call.")
    void noStatementBeforeLoad() {
        is(NONE, () -> new GainGraphs().loadStatement());
        GainGraphs x = new GainGraphs();
        Check.append(x, "x");
        is(NONE, x::loadStatement);
    }

    // Promise 6.

    @Sentence(at = "6", says = "- `what`: 0 N,")
    void countOfVertices() {
        is(1, () -> of("graph 1 12").count(0));
        is(8, () -> of("graph 8 1").count(0));
        is(8, () -> after("graph 7 1", GainGraphs::addVertex).count(0));
        is(1, () -> after("graph 2 1;arc 0 1 0", x -> x.contract(0)).count(0));
    }

    @Sentence(at = "6", says = "1 M,")
    void countOfGains() {
        is(1, () -> of("graph 8 1").count(1));
        is(12, () -> of("graph 1 12").count(1));
    }

    @Sentence(at = "6", says = "2 arcs,")
    void countOfArcs() {
        is(0, () -> of("graph 1 1").count(2));
        is(12, () -> of(TWELVE).count(2));
        is(11, () -> after(TWELVE, x -> x.contract(0)).count(2));
        is(0, () -> after("graph 1 1;arc 0 0 0", x -> x.dropArc(0)).count(2));
    }

    @Sentence(at = "6", says = "3 marked arcs,")
    void countOfMarks() {
        is(0, () -> of(TWELVE).count(3));
        is(12, () -> after(TWELVE, x -> x.mark(4095)).count(3));
        is(1, () -> after(TWELVE, x -> x.mark(2048)).count(3));
        is(0, () -> after("graph 1 1;arc 0 0 0;mark 0", x -> x.dropArc(0)).count(3));
    }

    @Sentence(at = "6", says = "4 actions that can be taken back,")
    void countOfActions() {
        GainGraphs x = new GainGraphs();
        for (int k = 0; k <= 10; k++) {
            int due = Math.min(k, 8);
            is(due, () -> x.count(4));
            x.clean(0);
        }
        x.undo();
        is(7, () -> x.count(4));
        x.saveSnapshot(0);
        is(7, () -> x.count(4));
    }

    @Sentence(at = "6", says = "5 the palette,")
    void countOfThePalette() {
        is(1, () -> new GainGraphs().count(5));
        is(5, () -> after("graph 1 1", x -> x.setPalette(5)).count(5));
        is(1, () -> after("graph 1 1", x -> x.setPalette(1)).count(5));
    }

    @Sentence(at = "6", says = "6 painted vertices")
    void countOfPaint() {
        is(0, () -> of("graph 8 1").count(6));
        is(8, () -> after("graph 8 1", GainGraphs::finish).count(6));
        is(1, () -> after("graph 8 1", x -> x.paint(7, 0)).count(6));
        is(0, () -> after("graph 8 1", x -> x.paint(7, 0) + x.clean(7)).count(6));
    }

    @Sentence(at = "6", says = "Throws `IllegalArgumentException` if what is out of range")
    void noSuchCount() {
        takes(Check.ARGUMENT, 0, 6, GainGraphs::new, GainGraphs::count);
    }

    // Promise 7.

    @Sentence(at = "7", says = "- `what`: 0 FROM, 1 TO, 2 GAIN, 3 WEIGHT, 4 whether it is marked (1 or 0)")
    void numbersOfArcs() {
        GainGraphs x = of("graph 8 12;arc 0 7 0 0;arc 7 0 11 99;mark 1");
        row(x, (y, what) -> y.arc(0, what), 0, 7, 0, 0, 0);
        row(x, (y, what) -> y.arc(1, what), 7, 0, 11, 99, 1);
        GainGraphs twelve = of(TWELVE + ";mark 11");
        row(twelve, (y, what) -> y.arc(11, what), 1, 0, 11, 1, 1);
        row(twelve, (y, what) -> y.arc(0, what), 0, 1, 1, 1, 0);
    }

    @Sentence(at = "7", says = "Throws `IndexOutOfBoundsException` if there is no such arc")
    void noSuchArc() {
        takesArcs((x, arc) -> x.arc(arc, 4));
    }

    @Sentence(at = "7", says = "Throws `IllegalArgumentException` if what is out of range")
    void noSuchNumberOfAnArc() {
        takes(Check.ARGUMENT, 0, 4, () -> of(THREE), (x, what) -> x.arc(2, what));
    }

    // Promises 8 and 9.

    @Sentence(at = "8", says = "Returns the arcs between two vertices, in both directions.")
    void bothDirections() {
        GainGraphs x = of("graph 8 2;arc 0 7 0;arc 7 0 1;arc 7 7 0;arc 0 1 0");
        is(3, () -> x.between(0, 7));
        is(3, () -> x.between(7, 0));
        is(8, () -> x.between(1, 0));
        is(0, () -> x.between(1, 7));
        is(0, () -> of("graph 8 2").between(0, 7));
    }

    @Sentence(at = "8", says = "- `to`: a vertex (the same one for its loops)")
    void loopsBetween() {
        GainGraphs x = of("graph 8 2;arc 0 7 0;arc 7 7 1;arc 7 7 0;arc 0 0 0");
        is(6, () -> x.between(7, 7));
        is(8, () -> x.between(0, 0));
        is(0, () -> x.between(1, 1));
        is(1, () -> x.between(0, 7));
    }

    @Sentence(at = "8", says = "Returns the sum of 2^k over these arcs k.")
    void sumsOverArcsBetween() {
        is(0, () -> of("graph 1 1").between(0, 0));
        is(1, () -> of("graph 1 1;arc 0 0 0").between(0, 0));
        is(4095, () -> of("graph 2 1" + ";arc 0 1 0;arc 1 0 0".repeat(6)).between(0, 1));
        is(2049, () -> of(TWELVE).between(0, 1));
        is(128, () -> of(TWELVE).between(0, 7));
    }

    @Sentence(at = "8", says = "Throws `IndexOutOfBoundsException` if there is no such vertex")
    void noSuchVertexBetween() {
        takesVertices((x, vertex) -> x.between(vertex, 0));
        takesVertices((x, vertex) -> x.between(0, vertex));
        takesVertices((x, vertex) -> x.between(vertex, vertex));
    }

    @Sentence(at = "9", says = "Returns the set of marked arcs.")
    void theMarkedArcs() {
        is(0, () -> new GainGraphs().marked());
        is(0, () -> of(TWELVE).marked());
        is(2, () -> after(THREE, x -> x.mark(2)).marked());
        is(0, () -> after(THREE + ";mark 0 1 2", x -> x.mark(0)).marked());
    }

    @Sentence(at = "9", says = "Returns the sum of 2^k over these arcs k.")
    void sumsOverMarkedArcs() {
        is(1, () -> of(TWELVE + ";mark 0").marked());
        is(2048, () -> of(TWELVE + ";mark 11").marked());
        is(4095, () -> of(TWELVE + ";mark 0 1 2 3 4 5 6 7 8 9 10 11").marked());
    }
}
