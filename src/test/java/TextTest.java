/** Promises 1 to 9: a new object, the text, its errors, and what stands behind it. */
public final class TextTest {
    private static final Check CHECK = new Check();

    public static void main(String[] args) {
        newObject();
        append();
        loadGood();
        loadKeepsOnError();
        misplaced();
        outOfRange();
        tooManyArcs();
        fullBuffer();
        formerText();
        looks();
        CHECK.finish();
    }

    private static void newObject() {
        GainGraphs x = new GainGraphs();
        int[] counts = {2, 2, 0, 0, 0, 1, 0};
        for (int what = 0; what < counts.length; what++) {
            int k = what;
            CHECK.due("1: count(" + k + ")", counts[k], () -> x.count(k));
        }
        CHECK.due("1: append", 0, () -> x.append(0));
        CHECK.due("1: isLike(0)", false, () -> x.isLike(0));
        CHECK.due("1: restoreSnapshot(1)", -1, () -> x.restoreSnapshot(1));
        CHECK.due("1: undo", -1, x::undo);
        CHECK.due("1: loadError", 0, x::loadError);
        CHECK.due("1: loadStatement", -1, x::loadStatement);
        CHECK.due("1: total(0)", 0, () -> x.total(0));
        CHECK.due("1: marked", 0, x::marked);
    }

    private static void append() {
        GainGraphs x = new GainGraphs();
        CHECK.due("2: one byte", 1, () -> x.append('g'));
        CHECK.due("2: zero bytes between are left out", 3, () -> x.append(0x7200000000000061L));
        CHECK.due("2: the most significant byte first", 11, () -> x.append(0x7068203120310020L + 0x2000L));
        CHECK.due("2: the text is read", 0, x::load);
        CHECK.due("2: N", 1, () -> x.count(0));
        CHECK.due("2: the buffer is empty then", 0, () -> x.append(0));
        for (int k = 1; k <= 49; k++) {
            int length = 8 * k;
            CHECK.due("2: filling", length, () -> x.append(-1L));
        }
        CHECK.due("2: 397", 397, () -> x.append(0x0102030405L));
        CHECK.due("2: 401 is too much", -2, () -> x.append(0x01020304L));
        CHECK.due("2: and changes nothing", 397, () -> x.append(0));
        CHECK.due("2: 400 is not", 400, () -> x.append(0x0100020003L));
        CHECK.due("2: nothing more", -2, () -> x.append(1));
        CHECK.due("2: no bytes still can", 400, () -> x.append(0));
        CHECK.due("2: a high bit is a byte like another", -100, x::load);
        CHECK.due("2: the error", 1, x::loadError);
    }

    private static void loadGood() {
        GainGraphs x = new GainGraphs();
        reads(x, "graph 8 12", 0);
        CHECK.due("3: N", 8, () -> x.count(0));
        CHECK.due("3: M", 12, () -> x.count(1));
        reads(x, "graph1 1", 0);
        reads(x, "  graph  0003 04 ;arc 0 1 3;arc1 1 2 99 ; mark 1;mark0 1 1  ", 2);
        arcIs(x, 0, 0, 1, 3, 1, 1);
        arcIs(x, 1, 1, 1, 2, 99, 1);
        reads(x, "graph 3 4;arc 0 2 0 0;mark 0;arc 2 1 1 00000000000000000000000000000000000007", 2);
        arcIs(x, 0, 0, 2, 0, 0, 1);
        arcIs(x, 1, 2, 1, 1, 7, 0);
        x.setPalette(3);
        x.paint(0, 1);
        x.addVertex();
        x.addArc(0, 0, 1);
        reads(x, "graph 3 4;arc 0 2 1", 1);
        CHECK.due("3: begins anew: palette", 1, () -> x.count(5));
        CHECK.due("3: no paint", 0, () -> x.count(6));
        CHECK.due("3: no actions", 0, () -> x.count(4));
        CHECK.due("3: nothing to take back", -1, x::undo);
        CHECK.due("3: totals are since load", 0, () -> x.total(1));
        CHECK.due("4: no error", 0, x::loadError);
        CHECK.due("5: no statement", -1, x::loadStatement);
        x.saveSnapshot(0);
        reads(x, "graph 1 1", 0);
        CHECK.due("3: the snapshots stay", 1, () -> x.restoreSnapshot(0));
        StringBuilder twelve = new StringBuilder("graph 8 12");
        for (int k = 0; k < 12; k++) {
            twelve.append(";arc ").append(k % 8).append(" 7 ").append(k);
        }
        reads(x, twelve + ";mark 0 11", 12);
        CHECK.due("3: marks", 2049, x::marked);
    }

    private static void loadKeepsOnError() {
        GainGraphs x = Check.of("graph 3 4;arc 0 1 3 7;mark 0");
        x.setPalette(2);
        x.paint(2, 8);
        x.switchAt(0, 1);
        fails(x, "graph 5 5;arc 0 1 2;mark 0;arc 0 1 5", 35, 2, 3);
        CHECK.due("3: the buffer is emptied on an error", 0, () -> x.append(0));
        CHECK.due("3: N stays", 3, () -> x.count(0));
        CHECK.due("3: M stays", 4, () -> x.count(1));
        arcIs(x, 0, 0, 1, 2, 7, 1);
        CHECK.due("3: actions stay", 3, () -> x.count(4));
        CHECK.due("3: palette stays", 2, () -> x.count(5));
        CHECK.due("3: paint stays", 8, () -> x.painted(2));
        CHECK.due("3: totals stay", 1, () -> x.total(0));
        CHECK.due("3: undo goes on", 2, x::undo);
        CHECK.due("3: gain before", 3, () -> x.arc(0, 2));
        CHECK.due("4: only load changes it", 2, x::loadError);
        CHECK.due("5: only load changes it", 3, x::loadStatement);
        reads(x, "graph 1 2", 0);
        CHECK.due("4: a good text ends it", 0, x::loadError);
        CHECK.due("5: a good text ends it", -1, x::loadStatement);
    }

    private static void misplaced() {
        GainGraphs x = new GainGraphs();
        fails(x, "", 0, 1, 0);
        fails(x, "   ", 3, 1, 0);
        fails(x, ";", 0, 1, 0);
        fails(x, " 2 graph", 1, 1, 0);
        fails(x, "arc 0 1 0", 0, 1, 0);
        fails(x, "mark 0", 0, 1, 0);
        fails(x, "graphs 2 2", 0, 1, 0);
        fails(x, "graphz 2 2", 0, 1, 0);
        fails(x, "grap 2 2", 0, 1, 0);
        fails(x, "Graph 2 2", 0, 1, 0);
        fails(x, "graph", 5, 1, 0);
        fails(x, "graph  ", 7, 1, 0);
        fails(x, "graph 2", 7, 1, 0);
        fails(x, "graph 2 ;", 8, 1, 0);
        fails(x, "graph 2 2 2", 10, 1, 0);
        fails(x, "graph 2 2 x", 10, 1, 0);
        fails(x, "graph 2 2arc 0 0 0", 9, 1, 0);
        fails(x, "graph 2 -2", 8, 1, 0);
        fails(x, "graph 2\t2", 7, 1, 0);
        fails(x, "graph 2\u00e92", 7, 1, 0);
        fails(x, "graph 2 2;", 10, 1, 1);
        fails(x, "graph 2 2;  ", 12, 1, 1);
        fails(x, "graph 2 2;;arc 0 0 0", 10, 1, 1);
        fails(x, "graph 2 2;graph 2 2", 10, 1, 1);
        fails(x, "graph 2 2;arcs 0 0 0", 10, 1, 1);
        fails(x, "graph 2 2;ar 0 0 0", 10, 1, 1);
        fails(x, "graph 2 2;5", 10, 1, 1);
        fails(x, "graph 2 2;arc 0 0", 17, 1, 1);
        fails(x, "graph 2 2;arc 0 0;", 17, 1, 1);
        fails(x, "graph 2 2;arc 0 0 0 1 2", 22, 1, 1);
        fails(x, "graph 2 2;arc 0 0 0 mark 0", 20, 1, 1);
        fails(x, "graph 2 2;arc 0 0 0 1,2", 21, 1, 1);
        fails(x, "graph 2 2;arc 0 0 0;mark", 24, 1, 2);
        fails(x, "graph 2 2;arc 0 0 0;mark ;", 25, 1, 2);
        fails(x, "graph 2 2;arc 0 0 0;mark mark", 25, 1, 2);
        fails(x, "graph 2 2;arc 0 0 0;mark 0 arc", 27, 1, 2);
        fails(x, "graph 2 2;arc 0 0 0;mark 0;marks 0", 27, 1, 3);
        fails(x, "graph 2 2{", 9, 1, 0);
        fails(x, "graph 2 2;`", 10, 1, 1);
        fails(x, "graph 2/2", 7, 1, 0);
        fails(x, "graph 2:2", 7, 1, 0);
    }

    private static void outOfRange() {
        GainGraphs x = new GainGraphs();
        fails(x, "graph 0 2", 6, 2, 0);
        fails(x, "graph 9 2", 6, 2, 0);
        fails(x, "graph 9", 6, 2, 0);
        fails(x, "graph 9!", 6, 2, 0);
        fails(x, "graph22 2", 5, 2, 0);
        fails(x, "graph 2 0", 8, 2, 0);
        fails(x, "graph 2 13", 8, 2, 0);
        fails(x, "graph 4294967298 2", 6, 2, 0);
        fails(x, "graph 18446744073709551618 2", 6, 2, 0);
        fails(x, "graph 3 4;arc 3 0 0", 14, 2, 1);
        fails(x, "graph 3 4;arc 0  3 0", 17, 2, 1);
        fails(x, "graph 3 4;arc 0 1 4", 18, 2, 1);
        fails(x, "graph 3 4;arc 0 1 3 100", 20, 2, 1);
        fails(x, "graph 3 4;arc 0 1 3 4294967296", 20, 2, 1);
        fails(x, "graph 3 4;mark 0", 15, 2, 1);
        fails(x, "graph 3 4;arc 0 1 0;mark 1", 25, 2, 2);
        fails(x, "graph 3 4;arc 0 1 0;mark 0 1;arc 0 1 0", 27, 2, 2);
        fails(x, "graph 3 4;arc 0 1 0;arc 0 1 0;mark 0 1 0002", 39, 2, 3);
    }

    private static void tooManyArcs() {
        StringBuilder twelve = new StringBuilder("graph 2 1");
        for (int k = 0; k < 12; k++) {
            twelve.append(";arc 0 1 0");
        }
        GainGraphs x = new GainGraphs();
        reads(x, twelve.toString(), 12);
        fails(x, twelve + "; arc 0 1 0", 131, 3, 13);
        fails(x, twelve + ";arc ?", 130, 3, 13);
        fails(x, twelve + ";mark 11; arc", 139, 3, 14);
        fails(x, twelve + ";arcs", 130, 1, 13);
        fails(x, twelve + ";mark 12", 135, 2, 13);
        CHECK.due("3: the former graph stays", 12, () -> x.count(2));
    }

    /** 400 bytes whose last one is of each kind: nothing behind the buffer is looked at. */
    private static void fullBuffer() {
        GainGraphs x = new GainGraphs();
        String start = "graph 2 2;arc 0 0 1;";
        String spaces = " ".repeat(400 - start.length());
        fails(x, start + spaces, 400, 1, 2);
        fails(x, start + spaces.substring(4) + "mark", 400, 1, 2);
        fails(x, start + spaces.substring(7) + "marking", 393, 1, 2);
        fails(x, start + spaces.substring(8) + "arc 1 1 ", 400, 1, 2);
        fails(x, start + spaces.substring(7) + "mark 0;", 400, 1, 3);
        fails(x, start + spaces.substring(7) + "mark 0,", 399, 1, 2);
        fails(x, start + spaces.substring(6) + "mark 1", 399, 2, 2);
        reads(x, start + spaces.substring(6) + "mark 0", 1);
        fails(x, start + spaces.substring(7) + "arc 1 1", 400, 1, 2);
        reads(x, start + spaces.substring(9) + "arc 1 1 0", 2);
        reads(x, start + spaces.substring(11) + "arc 1 1 0 9", 2);
        reads(x, start + "mark 0" + spaces.substring(6), 1);
        reads(x, "graph 2 " + "0".repeat(391) + "2", 0);
        fails(x, "g".repeat(400), 0, 1, 0);
        fails(x, "graph " + "9".repeat(394), 6, 2, 0);
        reads(x, start + "mark" + " 0".repeat(188), 1);
    }

    /** What an earlier, longer text has left in the buffer does not count. */
    private static void formerText() {
        GainGraphs x = new GainGraphs();
        fails(x, "graphs 2 2", 0, 1, 0);
        fails(x, "graph", 5, 1, 0);
        reads(x, "graph 2 2;arc 0 0 0", 1);
        fails(x, "graph 2 2;", 10, 1, 1);
        reads(x, "graph 2 2;arc 0 0 0 77;mark 0", 1);
        reads(x, "graph 2 2;arc 0 0 0 7", 1);
        arcIs(x, 0, 0, 0, 0, 7, 0);
        reads(x, "graph 2 2;arc 0 0 0", 1);
        arcIs(x, 0, 0, 0, 0, 1, 0);
        reads(x, "graph 2 12", 0);
        reads(x, "graph 2 1", 0);
        CHECK.due("3: M", 1, () -> x.count(1));
    }

    private static void looks() {
        GainGraphs x = Check.of("graph 3 4;arc 0 1 1;arc 1 0 2 5;arc 2 2 3 0;arc 0 2 0;mark 1 3");
        int[] counts = {3, 4, 4, 2, 2, 2, 1};
        x.setPalette(2);
        x.paint(0, 3);
        for (int what = 0; what < counts.length; what++) {
            int k = what;
            CHECK.due("6: count(" + k + ")", counts[k], () -> x.count(k));
        }
        CHECK.refused("6: count(-1)", Check.ARGUMENT, () -> x.count(-1));
        CHECK.refused("6: count(7)", Check.ARGUMENT, () -> x.count(7));
        arcIs(x, 0, 0, 1, 1, 1, 0);
        arcIs(x, 1, 1, 0, 2, 5, 1);
        arcIs(x, 2, 2, 2, 3, 0, 0);
        arcIs(x, 3, 0, 2, 0, 1, 1);
        CHECK.refused("7: arc(4, 0)", Check.INDEX, () -> x.arc(4, 0));
        CHECK.refused("7: arc(-1, 0)", Check.INDEX, () -> x.arc(-1, 0));
        CHECK.refused("7: arc(3, 5)", Check.ARGUMENT, () -> x.arc(3, 5));
        CHECK.refused("7: arc(3, -1)", Check.ARGUMENT, () -> x.arc(3, -1));
        CHECK.refused("7: the arc comes first", Check.INDEX, () -> x.arc(4, 5));
        CHECK.due("8: both directions", 3, () -> x.between(0, 1));
        CHECK.due("8: the other way", 3, () -> x.between(1, 0));
        CHECK.due("8: loops", 4, () -> x.between(2, 2));
        CHECK.due("8: no loops", 0, () -> x.between(0, 0));
        CHECK.due("8: none", 0, () -> x.between(1, 2));
        CHECK.due("8: one", 8, () -> x.between(2, 0));
        CHECK.refused("8: between(3, 0)", Check.INDEX, () -> x.between(3, 0));
        CHECK.refused("8: between(0, 3)", Check.INDEX, () -> x.between(0, 3));
        CHECK.refused("8: between(-1, 0)", Check.INDEX, () -> x.between(-1, 0));
        CHECK.refused("8: between(0, -1)", Check.INDEX, () -> x.between(0, -1));
        CHECK.due("9: marked", 10, x::marked);
    }

    private static void arcIs(GainGraphs x, int arc, int... numbers) {
        for (int what = 0; what < 5; what++) {
            int k = what;
            CHECK.due("7: arc(" + arc + ", " + k + ")", numbers[k], () -> x.arc(arc, k));
        }
    }

    private static void reads(GainGraphs x, String text, int arcs) {
        CHECK.due("3: load of \"" + text + "\"", arcs, () -> Check.load(x, text));
    }

    private static void fails(GainGraphs x, String text, int position, int kind, int statement) {
        CHECK.due("3: load of \"" + text + "\"", -100 - position, () -> Check.load(x, text));
        CHECK.due("4: loadError of \"" + text + "\"", kind, x::loadError);
        CHECK.due("5: loadStatement of \"" + text + "\"", statement, x::loadStatement);
    }
}
