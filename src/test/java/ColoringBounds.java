/** Promises 30 to 35 at their edges. */
final class ColoringBounds extends Bounds {
    private static final String NO_COLORS = "Throws `IllegalArgumentException` if colors is out of range";
    private static final String COLORS = "- `colors`: K, 1 to 5";
    /** Twelve arcs between two vertices, one of each gain: neither 0 twice, nor the same i twice. */
    private static final String FAN = "graph 2 12;arc 0 1 0;arc 0 1 1;arc 0 1 2;arc 0 1 3;arc 0 1 4;arc 0 1 5;arc 0 1 6;arc 0 1 7"
            + ";arc 0 1 8;arc 0 1 9;arc 0 1 10;arc 0 1 11";
    private static final String WAY = "graph 8 12;arc 0 1 1;arc 1 2 11;arc 3 2 0;arc 3 4 5;arc 5 4 6;arc 6 5 7;arc 7 6 8";
    private static final String EIGHT = "graph 8 2;arc 0 0 1;arc 1 1 1;arc 2 2 1;arc 3 3 1;arc 4 4 1;arc 5 5 1;arc 6 6 1;arc 7 7 1";

    private static long power(long base, int exponent) {
        return exponent == 0 ? 1 : base * power(base, exponent - 1);
    }

    @Sentence(at = "30", says = "Returns how many proper colorings there are (section 4).")
    void countsOfColorings() {
        is(2, () -> of("graph 1 1").colorings(1));
        is(0, () -> of("graph 1 1;arc 0 0 0").colorings(1));
        is(0, () -> of(EIGHT + ";arc 7 7 0").colorings(5));
        is(60, () -> of("graph 1 12;arc 0 0 6").colorings(5));
        is(191707312997281L, () -> of("graph 8 12").colorings(5));
        is(191707312997281L / 61 * 60, () -> of("graph 8 12;arc 3 3 11").colorings(5));
        is(power(60, 7) * 61, () -> of(WAY).colorings(5));
        is(power(12, 7) * 13, () -> of(WAY).colorings(1));
        is(power(10, 8), () -> of(EIGHT).colorings(5));
    }

    @Sentence(at = "30", says = COLORS)
    void oneToFive() {
        row(of(FAN), (x, k) -> x.colorings(k + 1), 24, 24 + 24 * 13, 36 + 36 * 25, 48 + 48 * 37, 60 + 60 * 49);
        row(of("graph 8 1"), (x, k) -> x.colorings(k + 1), power(2, 8), power(3, 8), power(4, 8), power(5, 8), power(6, 8));
    }

    @Sentence(at = "30", says = NO_COLORS)
    void noColors() {
        takes(Check.ARGUMENT, 1, 5, () -> of(FAN), GainGraphs::colorings);
    }

    @Sentence(at = "31", says = "Returns how many proper colorings there are in which no vertex has the color 0.")
    void countsWithoutZero() {
        is(1, () -> of("graph 1 1").zeroFree(1));
        is(0, () -> of("graph 1 1;arc 0 0 0").zeroFree(5));
        is(60, () -> of("graph 1 12;arc 0 0 6").zeroFree(5));
        is(power(60, 8), () -> of("graph 8 12").zeroFree(5));
        is(power(60, 8), () -> of("graph 8 12;arc 3 3 11").zeroFree(5));
        is(power(59, 7) * 60, () -> of(WAY).zeroFree(5));
        is(power(11, 7) * 12, () -> of(WAY).zeroFree(1));
        is(power(10, 8), () -> of(EIGHT).zeroFree(5));
        is(0, () -> of("graph 2 1;arc 0 1 0").zeroFree(1));
    }

    @Sentence(at = "31", says = COLORS)
    void oneToFiveWithoutZero() {
        row(of(FAN), (x, k) -> x.zeroFree(k + 1), 0, 24 * 12, 36 * 24, 48 * 36, 60 * 48);
        row(of("graph 8 1"), (x, k) -> x.zeroFree(k + 1), 1, power(2, 8), power(3, 8), power(4, 8), power(5, 8));
    }

    @Sentence(at = "31", says = NO_COLORS)
    void noColorsWithoutZero() {
        takes(Check.ARGUMENT, 1, 5, () -> of(FAN), GainGraphs::zeroFree);
    }

    @Sentence(at = "32", says = "Returns the sum, over all sets of arcs with so many balanced components,"
            + " of 1 for a set of an even number of arcs, and -1 for one of an odd number.")
    void signedSums() {
        row(of("graph 1 1"), GainGraphs::coefficient, 0, 1, 0, 0, 0, 0, 0, 0, 0);
        row(of("graph 8 12"), GainGraphs::coefficient, 0, 0, 0, 0, 0, 0, 0, 0, 1);
        row(of("graph 1 2;arc 0 0 1"), GainGraphs::coefficient, -1, 1, 0, 0, 0, 0, 0, 0, 0);
        row(of(EIGHT), GainGraphs::coefficient, 1, -8, 28, -56, 70, -56, 28, -8, 1);
        row(of(EIGHT + ";arc 7 7 0"), GainGraphs::coefficient, 0, 0, 0, 0, 0, 0, 0, 0, 0);
        row(of(WAY), GainGraphs::coefficient, 0, -1, 7, -21, 35, -35, 21, -7, 1);
        // The empty set has two balanced components, a single arc leaves one, two or more arcs leave none.
        row(of(FAN), GainGraphs::coefficient, 11, -12, 1, 0, 0, 0, 0, 0, 0);
    }

    @Sentence(at = "32", says = "- `power`: 0 to 8")
    void powersOfTheSum() {
        is(0, () -> of("graph 1 1").coefficient(0));
        is(0, () -> of("graph 1 1").coefficient(8));
        is(1, () -> of("graph 8 1").coefficient(8));
        is(0, () -> of("graph 7 1").coefficient(8));
        is(1, () -> after("graph 7 1", GainGraphs::addVertex).coefficient(8));
    }

    @Sentence(at = "32", says = "Throws `IllegalArgumentException` if power is out of range")
    void noPower() {
        takes(Check.ARGUMENT, 0, 8, GainGraphs::new, GainGraphs::coefficient);
        takes(Check.ARGUMENT, 0, 8, () -> of(EIGHT), GainGraphs::coefficient);
    }

    // Promise 33.

    @Sentence(at = "33", says = "Returns the color of a vertex in a proper coloring;")
    void theColorOfAVertex() {
        GainGraphs x = of("graph 2 2;arc 0 1 1;arc 1 1 1");
        int[][] all = {{0, 1}, {0, 2}, {1, 1}, {2, 2}};
        for (int index = 0; index < 4; index++) {
            int k = index;
            row(x, (y, v) -> y.colorAt(1, k, v), all[k][0], all[k][1]);
        }
        row(of("graph 1 12"), (y, k) -> y.colorAt(5, 60 - k, 0), 60, 59, 58);
        row(of("graph 2 3;arc 0 1 1"), (y, k) -> y.colorAt(1, k, 1), 1, 2, 3, 0, 1, 3, 0, 1, 2, 0, 2, 3, NONE);
        row(of("graph 2 3;arc 1 0 1"), (y, k) -> y.colorAt(1, k, 1), 1, 2, 3, 0, 1, 2, 0, 2, 3, 0, 1, 3, NONE);
        row(of("graph 1 12;arc 0 0 1"), (y, k) -> y.colorAt(5, k, 0), 1, 2, 3);
        is(60, () -> of("graph 1 12;arc 0 0 1").colorAt(5, 59, 0));
    }

    @Sentence(at = "33", says = "colorings are ordered by the color of vertex 0, then by that of vertex 1 and so on.")
    void theOrderOfColorings() {
        GainGraphs x = of("graph 8 1");
        for (int index : new int[] {0, 1, 2, 127, 128, 254, 255}) {
            row(x, (y, v) -> y.colorAt(1, index, v), index >> 7 & 1, index >> 6 & 1, index >> 5 & 1, index >> 4 & 1,
                    index >> 3 & 1, index >> 2 & 1, index >> 1 & 1, index & 1);
        }
        row(of("graph 2 12"), (y, v) -> y.colorAt(5, 61, v), 1, 0);
        row(of("graph 2 12"), (y, v) -> y.colorAt(5, 60, v), 0, 60);
    }

    @Sentence(at = "33", says = COLORS)
    void oneToFiveAtOneVertex() {
        row(of("graph 1 2"), (x, k) -> x.colorAt(k + 1, 2 * k + 2, 0), 2, 4, 6, 8, 10);
        row(of("graph 1 2"), (x, k) -> x.colorAt(k + 1, 2 * k + 3, 0), NONE, NONE, NONE, NONE, NONE);
    }

    @Sentence(at = "33", says = "- `index`: the index of the coloring, from 0")
    void fromZero() {
        is(0, () -> of("graph 1 1").colorAt(1, 0, 0));
        is(1, () -> of("graph 1 1").colorAt(1, 1, 0));
        is(NONE, () -> of("graph 1 1").colorAt(1, 2, 0));
    }

    @Sentence(at = "33", says = "NONE if there is no such coloring;")
    void noSuchColoring() {
        is(NONE, () -> of("graph 1 1").colorAt(1, 2, 0));
        is(NONE, () -> of("graph 1 1").colorAt(1, Integer.MAX_VALUE, 0));
        is(NONE, () -> of("graph 1 1;arc 0 0 0").colorAt(5, 0, 0));
        is(NONE, () -> of("graph 8 1;arc 7 7 0").colorAt(1, 0, 0));
        GainGraphs x = of("graph 2 12" + FAN.substring(10));
        is(12, () -> x.colorAt(1, 23, 0));
        is(0, () -> x.colorAt(1, 23, 1));
        is(NONE, () -> x.colorAt(1, 24, 0));
        is(NONE, () -> x.colorAt(1, 24, 1));
        is(60, () -> x.colorAt(5, 2999, 0));
        is(NONE, () -> x.colorAt(5, 3000, 0));
        GainGraphs y = of("graph 8 3");
        is(3, () -> y.colorAt(1, 65535, 7));
        is(NONE, () -> y.colorAt(1, 65536, 7));
        is(NONE, () -> y.colorAt(1, Integer.MAX_VALUE, 0));
    }

    @Sentence(at = "33", says = "UNKNOWN, whatever the index, if the number of colors to the power of N is above 200000.")
    void tooManyColorings() {
        // For each N the last number of colors to a power up to 200000, and the first one above.
        int[][] last = {{1, 12, 5}, {2, 12, 5}, {3, 11, 5}, {4, 10, 2}, {5, 10, 1}, {5, 2, 5}, {6, 6, 1}, {6, 2, 3}, {7, 4, 1}, {7, 1, 4}, {8, 3, 1}};
        int[][] above = {{3, 12, 5}, {4, 7, 3}, {5, 11, 1}, {6, 7, 1}, {7, 5, 1}, {7, 1, 5}, {8, 4, 1}, {8, 2, 2}, {8, 12, 5}};
        for (int[] row : last) {
            GainGraphs x = of("graph " + row[0] + " " + row[1]);
            int colors = row[1] * row[2] + 1;
            int count = (int) power(colors, row[0]);
            is(0, () -> x.colorAt(row[2], 0, 0));
            is(colors - 1, () -> x.colorAt(row[2], count - 1, row[0] - 1));
            is(NONE, () -> x.colorAt(row[2], count, 0));
        }
        for (int[] row : above) {
            GainGraphs x = of("graph " + row[0] + " " + row[1]);
            for (int index : new int[] {0, 1, 200000, Integer.MAX_VALUE}) {
                is(UNKNOWN, () -> x.colorAt(row[2], index, 0));
            }
            x.addArc(0, 0, 0);
            is(UNKNOWN, () -> x.colorAt(row[2], 0, 0));
        }
    }

    @Sentence(at = "33", says = "Throws `IndexOutOfBoundsException` if there is no such vertex")
    void noVertexToColor() {
        takesVertices((x, vertex) -> x.colorAt(1, 0, vertex));
        index(of("graph 8 12"), x -> x.colorAt(5, 0, 8));
        index(of("graph 8 12"), x -> x.colorAt(0, -1, -1));
    }

    @Sentence(at = "33", says = "Throws `IllegalArgumentException` if colors is out of range,")
    void noColorsToColorWith() {
        takes(Check.ARGUMENT, 1, 5, GainGraphs::new, (x, colors) -> x.colorAt(colors, 0, 0));
    }

    @Sentence(at = "33", says = " or index is negative")
    void aNegativeIndex() {
        refuses(Check.ARGUMENT, new int[] {-1, -2, Integer.MIN_VALUE}, GainGraphs::new, (x, index) -> x.colorAt(1, index, 0));
        refuses(Check.ARGUMENT, new int[] {-1, -2, Integer.MIN_VALUE}, () -> of("graph 8 12"), (x, index) -> x.colorAt(5, index, 7));
    }

    // Promises 34 and 35.

    @Sentence(at = "34", says = "Returns the least K from 1 on with a proper coloring.")
    void theLeastColors() {
        is(1, () -> of("graph 8 12").leastColors());
        is(1, () -> of(FAN).leastColors());
        is(2, () -> of("graph 2 10;arc 0 1 0;arc 0 1 1;arc 0 1 2;arc 0 1 3;arc 0 1 4;arc 0 1 5;arc 0 1 6;arc 0 1 7;arc 0 1 8;arc 0 1 9"
                + ";arc 0 0 1;arc 1 1 1").leastColors());
        is(1, () -> of("graph 1 12;arc 0 0 1").leastColors());
        is(2, () -> of("graph 2 2;arc 0 1 0;arc 0 1 1;arc 0 0 1;arc 1 1 1").leastColors());
    }

    @Sentence(at = "34", says = "Returns 1 to 5;")
    void theMostThatAreNeeded() {
        String three = "graph 3 2;arc 0 1 0;arc 0 1 1;arc 1 2 0;arc 1 2 1;arc 2 0 0;arc 2 0 1";
        is(2, () -> of(three).leastColors());
        is(3, () -> of(three + ";arc 0 0 1;arc 1 1 1;arc 2 2 1").leastColors());
        // Each two of five vertices joined: more than four are needed for no twelve arcs.
        is(4, () -> of("graph 5 1;arc 0 1 0;arc 0 2 0;arc 0 3 0;arc 0 4 0;arc 1 2 0;arc 1 3 0;arc 1 4 0;arc 2 3 0;arc 2 4 0;arc 3 4 0")
                .leastColors());
        is(3, () -> of("graph 5 1;arc 0 1 0;arc 0 2 0;arc 0 3 0;arc 0 4 0;arc 1 2 0;arc 1 3 0;arc 1 4 0;arc 2 3 0;arc 2 4 0")
                .leastColors());
    }

    @Sentence(at = "34", says = "NONE if there is none up to 5.")
    void noLeastColors() {
        is(NONE, () -> of("graph 1 1;arc 0 0 0").leastColors());
        is(NONE, () -> of("graph 8 12;arc 7 7 0").leastColors());
        is(1, () -> of("graph 8 12;arc 7 7 11").leastColors());
    }

    @Sentence(at = "35", says = "Tells whether a coloring is proper, that is told by a number: the color of vertex 0 is its lowest digit to the base"
            + " of the number of colors, that of vertex 1 the next one and so on;")
    void theDigitsOfANumber() {
        GainGraphs x = of("graph 8 3;arc 6 7 0");
        // Base 4: vertices 6 and 7 are the digits of 4096 and 16384.
        is(false, () -> x.isProper(1, 0));
        is(true, () -> x.isProper(1, 4096));
        is(true, () -> x.isProper(1, 16384));
        is(false, () -> x.isProper(1, 4096 + 16384));
        is(true, () -> x.isProper(1, 4096 + 2 * 16384));
        is(false, () -> x.isProper(1, 65535));
        is(false, () -> x.isProper(1, 4095));
        GainGraphs y = of("graph 2 12;arc 0 1 11");
        is(false, () -> y.isProper(5, 60 + 61 * 59));
        is(true, () -> y.isProper(5, 59 + 61 * 60));
        is(false, () -> y.isProper(5, 1 + 61 * 12));
    }

    @Sentence(at = "35", says = "what lies above the digit of the last vertex must be 0.")
    void aboveTheLastDigit() {
        takes(Check.ARGUMENT, 0, 1, () -> of("graph 1 1"), (x, code) -> one(x.isProper(1, code)));
        takes(Check.ARGUMENT, 0, 60, () -> of("graph 1 12"), (x, code) -> one(x.isProper(5, code)));
        takes(Check.ARGUMENT, 0, 65535, () -> of("graph 8 3"), (x, code) -> one(x.isProper(1, code)));
        takes(Check.ARGUMENT, 0, 815730720, () -> of("graph 8 12"), (x, code) -> one(x.isProper(1, code)));
    }

    @Sentence(at = "35", says = COLORS)
    void oneToFiveToTellAColoring() {
        GainGraphs x = of("graph 2 1;arc 0 1 0");
        // One color of each vertex more than the last: 2, 3, 4, 5, 6 colors.
        row(x, (y, k) -> one(y.isProper(k + 1, (k + 2) * (k + 2) - 1)), 0, 0, 0, 0, 0);
        row(x, (y, k) -> one(y.isProper(k + 1, (k + 2) * (k + 2) - 2)), 1, 1, 1, 1, 1);
    }

    @Sentence(at = "35", says = "- `code`: the number, 0 or greater")
    void numbersOfColorings() {
        is(true, () -> of("graph 8 12").isProper(5, 0));
        is(true, () -> of("graph 8 12").isProper(5, Integer.MAX_VALUE));
        is(true, () -> of("graph 6 12").isProper(5, Integer.MAX_VALUE));
        is(false, () -> of("graph 8 12;arc 6 7 11").isProper(5, Integer.MAX_VALUE));
        is(true, () -> of("graph 8 12;arc 4 5 11").isProper(5, Integer.MAX_VALUE));
    }

    @Sentence(at = "35", says = NO_COLORS + ",")
    void noColorsToTellAColoring() {
        takes(Check.ARGUMENT, 1, 5, GainGraphs::new, (x, colors) -> one(x.isProper(colors, 0)));
    }

    @Sentence(at = "35", says = " or the code is no coloring")
    void noColoring() {
        refuses(Check.ARGUMENT, new int[] {-1, -2, Integer.MIN_VALUE}, () -> of("graph 8 12"), (x, code) -> one(x.isProper(5, code)));
        refuses(Check.ARGUMENT, new int[] {9, 10, Integer.MAX_VALUE}, GainGraphs::new, (x, code) -> one(x.isProper(1, code)));
        refuses(Check.ARGUMENT, new int[] {844596301, Integer.MAX_VALUE}, () -> of("graph 5 12"), (x, code) -> one(x.isProper(5, code)));
        is(true, () -> of("graph 5 12").isProper(5, 844596300));
    }
}
