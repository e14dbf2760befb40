/** Sections 1 to 4 of the terms at their edges. */
final class TermBounds extends Bounds {
    @Sentence(at = "Top", says = "An object is used for at most 512 calls after it has been made;")
    void theLastOf512CallsAnswers() {
        GainGraphs x = new GainGraphs();
        for (int call = 1; call <= 509; call++) {
            x.switchAt(0, 1);
        }
        is(509, () -> x.total(0));
        is(7, x::undo);
        is(508, () -> x.total(0));
    }

    @Sentence(at = "T0", says = "Gains are added and taken away modulo M (never below 0).")
    void gainsGoRound() {
        GainGraphs x = of("graph 3 12;arc 0 1 11;arc 1 2 11;arc 0 2 0");
        is(10, () -> x.walk(0, 0, 1, NONE));
        is(2, () -> x.walk(2, 1, 0, NONE));
        is(10, () -> x.potential(3, 2));
        is(1, () -> x.turnArc(0));
        is(2, () -> x.switchAt(2, 1));
        row(x, (y, k) -> y.arc(k, 2), 1, 0, 1);
        is(2, () -> x.switchAt(0, 11));
        row(x, (y, k) -> y.arc(k, 2), 0, 0, 2);
        is(2, () -> x.normalGain(2));
        GainGraphs one = of("graph 2 1;arc 0 1 0");
        is(0, () -> one.walk(1, 0, NONE, NONE));
        is(0, () -> one.turnArc(0));
        is(0, () -> one.switchAt(0, 0));
        is(0, () -> one.arc(0, 2));
    }

    // Section 1.

    @Sentence(at = "T1", says = "A description is a list of one or more statements, separated by semicolons;")
    void oneOrMoreStatements() {
        reads("graph 2 2", 0);
        reads("graph 2 2;arc 0 1 0", 1);
        fails("", 0, 1, 0);
        fails(";graph 2 2", 0, 1, 0);
        fails("graph 2 2;", 10, 1, 1);
        fails("graph 2 2;;arc 0 1 0", 10, 1, 1);
        fails("graph 2 2 arc 0 1 0", 10, 1, 0);
        fails("graph 2 2;arc 0 1 0 arc 0 1 0", 20, 1, 1);
        fails("graph 2 2;arc 0 1 0;mark 0 mark 0", 27, 1, 2);
        fails("graph 2 2,arc 0 1 0", 9, 1, 0);
    }

    @Sentence(at = "T1", says = "the first one is")
    void theFirstStatement() {
        fails("arc 0 1 0;graph 2 2", 0, 1, 0);
        fails(" mark 0;graph 2 2", 1, 1, 0);
        reads(" graph 2 2;arc 0 1 0", 1);
    }

    @Sentence(at = "T1", says = "graph N M - 1 to 8 vertices, numbered from 0,")
    void oneToEightVertices() {
        reads("graph 1 2;arc 0 0 0", 1);
        reads("graph 8 2;arc 0 7 0;arc 7 0 0", 2);
        fails("graph 0 2", 6, 2, 0);
        fails("graph 9 2", 6, 2, 0);
        fails("graph 1 2;arc 0 1 0", 16, 2, 1);
        fails("graph 1 2;arc 1 0 0", 14, 2, 1);
        fails("graph 8 2;arc 8 0 0", 14, 2, 1);
        fails("graph 8 2;arc 0 8 0", 16, 2, 1);
    }

    @Sentence(at = "T1", says = "and gains from 0 to M - 1, M 1 to 12;")
    void oneToTwelveGains() {
        reads("graph 2 1;arc 0 1 0", 1);
        reads("graph 2 12;arc 0 1 0;arc 0 1 11", 2);
        fails("graph 2 0", 8, 2, 0);
        fails("graph 2 13", 8, 2, 0);
        fails("graph 2 1;arc 0 1 1", 18, 2, 1);
        fails("graph 2 12;arc 0 1 12", 19, 2, 1);
    }

    @Sentence(at = "T1", says = "it stands only there;")
    void noOtherGraphStatement() {
        fails("graph 2 2;graph 2 2", 10, 1, 1);
        fails("graph 2 2;arc 0 1 0; graph 2 2", 21, 1, 2);
    }

    @Sentence(at = "T1", says = "arc FROM TO GAIN [ WEIGHT ] - two vertices (the same one twice for a loop),")
    void theEndsOfAnArc() {
        GainGraphs x = of("graph 3 2;arc 2 0 1;arc 2 2 1;arc 0 0 0");
        row(x, (y, k) -> y.arc(k, 0), 2, 2, 0);
        row(x, (y, k) -> y.arc(k, 1), 0, 2, 0);
        fails("graph 3 2;arc 3 0 1", 14, 2, 1);
        fails("graph 3 2;arc 0 3 1", 16, 2, 1);
        fails("graph 3 2;arc 0 1", 17, 1, 1);
        fails("graph 3 2;arc 0 1;", 17, 1, 1);
    }

    @Sentence(at = "T1", says = "0 to M - 1,")
    void theGainOfAnArc() {
        GainGraphs x = of("graph 3 5;arc 2 0 0;arc 2 2 4");
        row(x, (y, k) -> y.arc(k, 2), 0, 4);
        fails("graph 3 5;arc 0 1 5", 18, 2, 1);
        fails("graph 3 5;arc 0 1 -1", 18, 1, 1);
    }

    @Sentence(at = "T1", says = "0 to 99 (1 without it);")
    void theWeightOfAnArc() {
        GainGraphs x = of("graph 3 5;arc 0 1 2 0;arc 0 1 2 99;arc 0 1 2;arc 0 1 2 1 ;arc 0 1 0 2 ;arc 1 2 4 ");
        row(x, (y, k) -> y.arc(k, 3), 0, 99, 1, 1, 2, 1);
        fails("graph 3 5;arc 0 1 2 100", 20, 2, 1);
        fails("graph 3 5;arc 0 1 2 99 0", 23, 1, 1);
    }

    @Sentence(at = "T1", says = "at most 12 arcs, numbered from 0;")
    void twelveArcs() {
        reads("graph 1 1", 0);
        reads(TWELVE, 12);
        reads(TWELVE + ";mark 0 11", 12);
        GainGraphs x = of(TWELVE);
        is(1, () -> x.arc(0, 2));
        is(11, () -> x.arc(11, 2));
        fails(TWELVE + ";arc 0 0 0", TWELVE.length() + 1, 3, 13);
    }

    @Sentence(at = "T1", says = "mark ARC { ARC } - one or more arcs that were described before;")
    void oneOrMoreMarks() {
        reads("graph 2 2;arc 0 1 0;mark 0", 1);
        reads("graph 2 2;arc 0 1 0;mark 0 0 0", 1);
        reads(TWELVE + ";mark 0 1 2 3 4 5 6 7 8 9 10 11", 12);
        fails("graph 2 2;arc 0 1 0;mark", 24, 1, 2);
        fails("graph 2 2;arc 0 1 0;mark;", 24, 1, 2);
        fails("graph 2 2;mark 0", 15, 2, 1);
        fails("graph 2 2;mark 0;arc 0 1 0", 15, 2, 1);
        fails("graph 2 2;arc 0 1 0;mark 0 1;arc 0 1 1", 27, 2, 2);
    }

    @Sentence(at = "T1", says = "they are marked, also by several such statements.")
    void marksOfSeveralStatements() {
        is(0, () -> of("graph 2 2;arc 0 1 0").marked());
        is(1, () -> of("graph 2 2;arc 0 1 0;mark 0;mark 0").marked());
        is(5, () -> of("graph 2 2;arc 0 1 0;mark 0;arc 0 1 0;arc 0 1 1;mark 2").marked());
        is(4095, () -> of(TWELVE + ";mark 11 10 9 8 7 6;mark 5 4 3 2 1 0").marked());
    }

    @Sentence(at = "T1", says = "A word is a maximal run of lower-case letters,")
    void words() {
        fails("grap 2 2", 0, 1, 0);
        fails("xraph 2 2", 0, 1, 0);
        fails("grapg 2 2", 0, 1, 0);
        fails("graph 2 2;brc 0 1 0", 10, 1, 1);
        fails("graph 2 2;ard 0 1 0", 10, 1, 1);
        fails("graph 2 2;arc 0 1 0;lark 0", 20, 1, 2);
        fails("graph 2 2;arc 0 1 0;mar 0", 20, 1, 2);
        fails("graphs 2 2", 0, 1, 0);
        fails("grapha 2 2", 0, 1, 0);
        fails("graphz 2 2", 0, 1, 0);
        fails("graph 2 2;arcmark 0", 10, 1, 1);
        fails("graph 2 2;arc 0 1 0;markmark 0", 20, 1, 2);
        fails("gra ph 2 2", 0, 1, 0);
        fails("graPh 2 2", 0, 1, 0);
        fails("GRAPH 2 2", 0, 1, 0);
        fails("graph`2 2", 5, 1, 0);
        fails("graph{2 2", 5, 1, 0);
        fails("`graph 2 2", 0, 1, 0);
        fails("{graph 2 2", 0, 1, 0);
        fails("graph 2 2;ab", 10, 1, 1);
        fails("graph 2 2;zz", 10, 1, 1);
    }

    @Sentence(at = "T1", says = "a number a maximal run of digits.")
    void numbers() {
        is(12, () -> of("graph 2 12").count(1));
        is(8, () -> of("graph 0000000000008 1").count(0));
        is(99, () -> of("graph 2 2;arc 00 01 001 0099").arc(0, 3));
        fails("graph 22 2", 6, 2, 0);
        fails("graph 2 222", 8, 2, 0);
        fails("graph 2 2/", 9, 1, 0);
        fails("graph 2 2:", 9, 1, 0);
        fails("graph /2 2", 6, 1, 0);
        fails("graph :2 2", 6, 1, 0);
        // Numbers that would come back into range if they were cut to 32 or 64 bits.
        fails("graph 4294967298 2", 6, 2, 0);
        fails("graph 2 18446744073709551617", 8, 2, 0);
        fails("graph 2 2;arc 0 1 0 99999999999999999999999999999999999999", 20, 2, 1);
    }

    @Sentence(at = "T1", says = "Spaces (byte 32) may stand before and after words, numbers and semicolons;")
    void spaces() {
        reads("  graph   2   2   ;   arc   0   1   0   7   ;   mark   0   ", 1);
        reads("graph 2 2" + " ".repeat(391), 0);
        reads(" ".repeat(391) + "graph 2 2", 0);
        fails("graph\t2 2", 5, 1, 0);
        fails("graph 2\n2", 7, 1, 0);
        fails("graph 2 2\r", 9, 1, 0);
        fails("graph\u001f2 2", 5, 1, 0);
        fails("graph!2 2", 5, 1, 0);
        fails("graph\u00a02 2", 5, 1, 0);
        fails("gr aph 2 2", 0, 1, 0);
    }

    @Sentence(at = "T1", says = "they are required only between two numbers.")
    void spacesAreRequired() {
        reads("graph2 2;arc0 1 0 7;arc0 0 1;mark0 1", 2);
        fails("graph22", 5, 2, 0);
        fails("graph11", 5, 2, 0);
        fails("graph 2 2;arc01 0", 17, 1, 1);
    }

    @Sentence(at = "T1", says = "The text is read from left to right;")
    void fromLeftToRight() {
        fails("graph 9 0", 6, 2, 0);
        fails("graph 9 x", 6, 2, 0);
        fails("graph x 9", 6, 1, 0);
        fails("graph 2 2;arc 9 x", 14, 2, 1);
        fails("graph 2 2;arc 0 1 2 100", 18, 2, 1);
        fails(TWELVE + ";arc 9 x", TWELVE.length() + 1, 3, 13);
        fails(TWELVE + ";mark 12;arc 0 0 0", TWELVE.length() + 6, 2, 13);
    }

    @Sentence(at = "T1", says = "the first error ends it.")
    void theFirstError() {
        fails("graph 2 2;x;arc 9 0 0;", 10, 1, 1);
        fails("graph 2 2;arc 0 9 0;x", 16, 2, 1);
        fails("x", 0, 1, 0);
        fails("graph 3 2;arc 0 1 2;arc 0 1 0;mark 5", 18, 2, 1);
    }

    @Sentence(at = "T1", says = "Error 1: a byte, word or number cannot stand at its place (position of its first byte),")
    void errorOne() {
        fails("\u0001", 0, 1, 0);
        fails("\u00ff", 0, 1, 0);
        fails("7", 0, 1, 0);
        fails("vertex", 0, 1, 0);
        fails("graph graph", 6, 1, 0);
        fails("graph ;", 6, 1, 0);
        fails("graph 2 2 33", 10, 1, 0);
        fails("graph 2 2 more", 10, 1, 0);
        fails("graph 2 2;  77", 12, 1, 1);
        fails("graph 2 2;arc arc", 14, 1, 1);
        fails("graph 2 2;arc 0 arc", 16, 1, 1);
        fails("graph 2 2;arc 0 1 ;", 18, 1, 1);
        fails("graph 2 2;arc 0 1 0 ?", 20, 1, 1);
        fails("graph 2 2;arc 0 1 0 1 11", 22, 1, 1);
        fails("graph 2 2;arc 0 1 0;mark 0 arc", 27, 1, 2);
        fails(TWELVE + ";arcs", TWELVE.length() + 1, 1, 13);
    }

    @Sentence(at = "T1", says = "or the text ends too early (position: its length).")
    void theTextEnds() {
        String whole = "graph 2 2;arc 0 1 0;mark 0";
        for (int length : new int[] {0, 5, 6, 7, 8, 10, 13, 14, 15, 16, 17, 18, 20, 24, 25}) {
            int statement = length < 10 ? 0 : length < 20 ? 1 : 2;
            fails(whole.substring(0, length), length, 1, statement);
            fails(whole.substring(0, length) + "  ", length + 2, 1, statement);
        }
        reads(whole.substring(0, 9), 0);
        reads(whole.substring(0, 19), 1);
        reads(whole, 1);
        fails(" ".repeat(400), 400, 1, 0);
        fails("graph 2 2" + " ".repeat(390) + ";", 400, 1, 1);
    }

    @Sentence(at = "T1", says = "Error 2: a number is out of its range,")
    void errorTwo() {
        fails("graph  0 2", 7, 2, 0);
        fails("graph 09 2", 6, 2, 0);
        fails("graph 2 000", 8, 2, 0);
        fails("graph 2 13", 8, 2, 0);
        fails("graph 5 3; arc 5 0 0", 15, 2, 1);
        fails("graph 5 3; arc 0 5 0", 17, 2, 1);
        fails("graph 5 3; arc 0 0 3", 19, 2, 1);
        fails("graph 5 3; arc 0 0 0 100", 21, 2, 1);
        reads("graph 5 3; arc 4 4 2 99", 1);
    }

    @Sentence(at = "T1", says = "or of an arc that was not described before (position of its first digit).")
    void marksOfNoArc() {
        fails("graph 2 2;mark 0", 15, 2, 1);
        fails("graph 2 2;mark00", 14, 2, 1);
        fails("graph 2 2;arc 0 1 0;mark 0  01", 28, 2, 2);
        fails(TWELVE + ";mark 11 12", TWELVE.length() + 9, 2, 13);
        reads(TWELVE + ";mark 11 11", 12);
    }

    @Sentence(at = "T1", says = "Error 3: a thirteenth arc (position of its word).")
    void errorThree() {
        int end = TWELVE.length();
        fails(TWELVE + ";arc 0 0 0", end + 1, 3, 13);
        fails(TWELVE + ";  arc 0 0 0", end + 3, 3, 13);
        fails(TWELVE + ";mark 0;arc 0 0 0", end + 8, 3, 14);
        fails(TWELVE + ";arc", end + 1, 3, 13);
        fails(TWELVE.replace("graph 8 12;arc 0 1 1", "graph 8 12;arc 0 1 12"), 19, 2, 1);
    }

    @Sentence(at = "T1", says = "A new object is as by the text \"graph 2 2\".")
    void aNewObject() {
        same(look(of("graph 2 2")), look(new GainGraphs()));
        GainGraphs x = new GainGraphs();
        row(x, GainGraphs::count, 2, 2, 0, 0, 0, 1, 0);
        is(0, () -> x.addArc(1, 1, 1));
        is(2, x::addVertex);
    }

    // Section 2.

    @Sentence(at = "T2", says = "A set of arcs joins vertices into components;")
    void theFewestComponents() {
        GainGraphs x = of("graph 8 1;arc 1 0 0;arc 2 1 0;arc 3 2 0;arc 4 3 0;arc 5 4 0;arc 6 5 0;arc 7 6 0");
        is(1, () -> x.components(127));
        row(x, (y, v) -> y.componentOf(127, v), 0, 0, 0, 0, 0, 0, 0, 0);
        is(2, () -> x.components(119));
        row(x, (y, v) -> y.componentOf(119, v), 0, 0, 0, 0, 4, 4, 4, 4);
    }

    @Sentence(at = "T2", says = "a vertex without arcs of the set is a component, too.")
    void theMostComponents() {
        GainGraphs x = of("graph 8 1;arc 1 0 0;arc 7 7 0");
        is(8, () -> x.components(0));
        row(x, (y, v) -> y.componentOf(0, v), 0, 1, 2, 3, 4, 5, 6, 7);
        is(8, () -> x.components(2));
        is(7, () -> x.components(1));
        is(7, () -> x.components(3));
        is(1, () -> of("graph 1 1").components(0));
    }

    @Sentence(at = "T2", says = "A component is balanced if its vertices can have potentials, 0 to M - 1, so that for each arc of the set in it"
            + " the potential of TO is that of FROM plus GAIN.")
    void roundAndRound() {
        GainGraphs x = of("graph 3 12;arc 0 1 11;arc 1 2 11;arc 2 0 2;arc 2 0 1");
        is(true, () -> x.isBalancedAt(7, 0));
        is(false, () -> x.isBalancedAt(11, 0));
        row(x, (y, v) -> y.potential(7, v), 0, 11, 10);
        row(x, (y, v) -> y.potential(11, v), NONE, NONE, NONE);
        is(true, () -> x.isBalancedAt(0, 2));
        is(true, () -> of("graph 3 1;arc 0 1 0;arc 1 2 0;arc 2 0 0;arc 2 2 0").isBalancedAt(15, 1));
    }

    @Sentence(at = "T2", says = "A set is balanced if all its components are.")
    void allComponents() {
        GainGraphs x = of("graph 8 2;arc 7 7 1;arc 0 0 1;arc 3 4 1;arc 4 3 1;arc 4 3 0");
        is(true, () -> x.isBalanced(0));
        is(false, () -> x.isBalanced(1));
        is(false, () -> x.isBalanced(2));
        is(true, () -> x.isBalanced(12));
        is(false, () -> x.isBalanced(20));
        is(false, () -> x.isBalanced(13));
        is(false, () -> x.isBalanced(31));
    }

    @Sentence(at = "T2", says = "(A loop is balanced if GAIN is 0.)")
    void loops() {
        GainGraphs x = of("graph 1 12;arc 0 0 0;arc 0 0 1;arc 0 0 6;arc 0 0 11");
        is(true, () -> x.isBalanced(1));
        is(false, () -> x.isBalanced(2));
        is(false, () -> x.isBalanced(4));
        is(false, () -> x.isBalanced(8));
        is(true, () -> of("graph 1 1;arc 0 0 0").isBalanced(1));
    }

    @Sentence(at = "T2", says = "A cycle is a set of arcs that is connected and has, at each vertex where it has an arc, two ends of arcs"
            + " (a loop has both of its ends at one vertex;")
    void cyclesOfEachSize() {
        GainGraphs ring = of("graph 8 12;arc 0 1 1;arc 2 1 2;arc 2 3 3;arc 3 4 4;arc 4 5 5;arc 5 6 6;arc 6 7 7;arc 7 0 0");
        row(ring, (y, k) -> y.cycles(k + 1, true), 0, 0, 0, 0, 0, 0, 0, 1, 0, 0, 0, 0);
        ring.setGain(7, 3);
        row(ring, (y, k) -> y.cycles(k + 1, false), 0, 0, 0, 0, 0, 0, 0, 1, 0, 0, 0, 0);
        GainGraphs loops = of("graph 2 2;arc 0 0 0;arc 0 0 1;arc 1 1 0;arc 0 1 0");
        row(loops, (y, k) -> y.cycles(k + 1, true), 2, 0, 0, 0);
        row(loops, (y, k) -> y.cycles(k + 1, false), 1, 0, 0, 0);
        GainGraphs two = of("graph 4 2;arc 0 1 0;arc 0 1 0;arc 2 3 0;arc 2 3 0");
        row(two, (y, k) -> y.cycles(k + 1, true), 0, 2, 0, 0);
    }

    @Sentence(at = "T2", says = "two arcs between the same two vertices are a cycle).")
    void twoArcs() {
        is(1, () -> of("graph 2 3;arc 0 1 1;arc 0 1 1").cycles(2, true));
        is(1, () -> of("graph 2 3;arc 0 1 1;arc 1 0 2").cycles(2, true));
        is(1, () -> of("graph 2 3;arc 0 1 1;arc 1 0 1").cycles(2, false));
        is(0, () -> of("graph 2 3;arc 0 1 1;arc 0 0 1").cycles(2, false));
        is(0, () -> of("graph 3 3;arc 0 1 1;arc 1 2 1").cycles(2, true));
        is(0, () -> of("graph 1 3;arc 0 0 0;arc 0 0 0").cycles(2, true));
    }

    // Section 3.

    @Sentence(at = "T3", says = "The rank of a set is N minus the number of its balanced components.")
    void ranksFromZeroToEight() {
        GainGraphs x = of("graph 8 2;arc 0 0 1;arc 1 1 1;arc 2 2 1;arc 3 3 1;arc 4 4 1;arc 5 5 1;arc 6 6 1;arc 7 7 1;arc 0 7 0;arc 3 3 0");
        is(0, () -> x.rank(0));
        is(0, () -> x.rank(512));
        is(1, () -> x.rank(256));
        is(2, () -> x.rank(257));
        is(7, () -> x.rank(127));
        is(8, () -> x.rank(255));
        is(8, () -> x.rank(1023));
        is(0, () -> of("graph 8 12").rank(0));
    }

    @Sentence(at = "T3", says = "The closure of a set has all arcs that do not make its rank greater if they come to it.")
    void closuresOfTheEmptyAndOfAll() {
        GainGraphs x = of("graph 3 3;arc 0 1 0;arc 1 1 0;arc 0 1 1;arc 2 2 2;arc 2 2 0");
        is(18, () -> x.closure(0));
        is(19, () -> x.closure(1));
        is(26, () -> x.closure(8));
        is(23, () -> x.closure(5));
        is(31, () -> x.closure(31));
        is(31, () -> x.closure(13));
        is(0, () -> of("graph 1 1").closure(0));
    }

    @Sentence(at = "T3", says = "A set is independent if its rank is its number of arcs;")
    void independentSets() {
        GainGraphs x = of("graph 2 3;arc 0 1 0;arc 0 1 1;arc 0 1 0;arc 0 0 0;arc 1 1 1");
        is(true, () -> x.isIndependent(0));
        is(true, () -> x.isIndependent(1));
        is(true, () -> x.isIndependent(3));
        is(false, () -> x.isIndependent(5));
        is(false, () -> x.isIndependent(7));
        is(false, () -> x.isIndependent(8));
        is(true, () -> x.isIndependent(16));
        is(true, () -> x.isIndependent(17));
        is(false, () -> x.isIndependent(19));
        is(false, () -> x.isIndependent(31));
    }

    @Sentence(at = "T3", says = "a circuit if it is not independent, but each set is that has one arc less;")
    void circuitsAtTheEdges() {
        GainGraphs x = of("graph 2 3;arc 0 1 0;arc 0 1 1;arc 0 1 0;arc 0 0 0;arc 1 1 1");
        is(NONE, () -> x.circuitKind(0));
        is(1, () -> x.circuitKind(8));
        is(NONE, () -> x.circuitKind(9));
        is(NONE, () -> x.circuitKind(16));
        is(1, () -> x.circuitKind(5));
        is(NONE, () -> x.circuitKind(7));
        is(3, () -> x.circuitKind(19));
        is(NONE, () -> x.circuitKind(31));
        row(x, (y, k) -> y.circuits(k + 1), 1, 1, 2, 0, 0);
    }

    @Sentence(at = "T3", says = "a basis if it is independent and has the rank of all arcs;")
    void theEmptyBasis() {
        is(1, () -> of("graph 8 12").bases());
        is(1, () -> of("graph 2 3;arc 0 0 0;arc 1 1 0").bases());
        is(0, () -> of("graph 2 3;arc 0 0 0;arc 1 1 0").leastBasis());
        is(1, () -> of("graph 2 3;arc 0 0 1;arc 1 1 2;arc 1 1 0").bases());
        is(3, () -> of("graph 2 3;arc 0 0 1;arc 1 1 2;arc 1 1 0").leastBasis());
    }

    @Sentence(at = "T3", says = "a flat if it is its own closure.")
    void theLeastAndTheLargestFlat() {
        GainGraphs x = of("graph 2 3;arc 0 0 0;arc 0 1 1;arc 0 1 1;arc 0 1 2");
        is(false, () -> x.isFlat(0));
        is(true, () -> x.isFlat(1));
        is(false, () -> x.isFlat(3));
        is(true, () -> x.isFlat(7));
        is(true, () -> x.isFlat(9));
        is(false, () -> x.isFlat(14));
        is(true, () -> x.isFlat(15));
        is(true, () -> of("graph 8 12").isFlat(0));
    }

    // Section 4.

    @Sentence(at = "T4", says = "There are M * K + 1 colors: 0, and 1 + (i - 1) * M + x for i from 1 to K and x from 0 to M - 1,"
            + " which is the color i, x.")
    void theLastColor() {
        is(2, () -> of("graph 1 1").colorings(1));
        is(61, () -> of("graph 1 12").colorings(5));
        GainGraphs x = of("graph 2 3;arc 0 1 1");
        // 7 colors: from 3 (1, 2) the gain goes round to 1 (1, 0), from 6 (2, 2) to 4 (2, 0).
        is(false, () -> x.isProper(2, 3 + 7));
        is(true, () -> x.isProper(2, 3 + 7 * 4));
        is(false, () -> x.isProper(2, 6 + 7 * 4));
        is(true, () -> x.isProper(2, 6 + 7));
        is(true, () -> x.isProper(2, 6));
        is(true, () -> x.isProper(2, 48));
        argument(x, y -> one(y.isProper(2, 49)));
        GainGraphs one = of("graph 2 1;arc 0 1 0");
        is(false, () -> one.isProper(5, 5 + 6 * 5));
        is(true, () -> one.isProper(5, 5 + 6 * 4));
    }

    @Sentence(at = "T4", says = "It is proper if for no arc both ends have the color 0,")
    void bothEndsZero() {
        GainGraphs x = of("graph 2 3;arc 0 1 1");
        is(false, () -> x.isProper(1, 0));
        is(true, () -> x.isProper(1, 1));
        is(true, () -> x.isProper(1, 4));
        GainGraphs loop = of("graph 2 3;arc 1 1 2");
        is(false, () -> loop.isProper(1, 0));
        is(false, () -> loop.isProper(1, 3));
        is(true, () -> loop.isProper(1, 4));
        is(true, () -> of("graph 8 12").isProper(5, 0));
    }

    @Sentence(at = "T4", says = "and for no arc FROM has a color i, x and TO the color i, x plus GAIN (modulo M) with the same i.")
    void alongTheArc() {
        GainGraphs x = of("graph 2 4;arc 0 1 1");
        is(false, () -> x.isProper(2, 1 + 9 * 2));
        is(true, () -> x.isProper(2, 2 + 9));
        is(false, () -> x.isProper(2, 4 + 9));
        is(false, () -> x.isProper(2, 8 + 9 * 5));
        is(true, () -> x.isProper(2, 4 + 9 * 5));
        is(true, () -> x.isProper(2, 1 + 9 * 6));
        is(true, () -> x.isProper(2, 1 + 9));
        GainGraphs loop = of("graph 1 4;arc 0 0 0");
        row(loop, (y, code) -> one(y.isProper(1, code)), 0, 0, 0, 0, 0);
        GainGraphs odd = of("graph 1 4;arc 0 0 3");
        row(odd, (y, code) -> one(y.isProper(1, code)), 0, 1, 1, 1, 1);
    }
}
