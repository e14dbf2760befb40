/** Promises 30 to 35: colorings, counted and one by one. */
public final class ColoringTest {
    private static final Check CHECK = new Check();

    private static final String FOUR = "graph 2 2;arc 0 1 0;arc 0 1 1;arc 0 0 1;arc 1 1 1";
    private static final String TRIANGLE = "graph 3 1;arc 0 1 0;arc 1 2 0;arc 2 0 0";

    public static void main(String[] args) {
        counts();
        coefficients();
        oneByOne();
        tooMany();
        leastColors();
        proper();
        badNumbers();
        CHECK.finish();
    }

    private static void counts() {
        GainGraphs triangle = Check.of(TRIANGLE);
        GainGraphs four = Check.of(FOUR);
        GainGraphs bare = Check.of("graph 8 12");
        GainGraphs loop = Check.of("graph 2 3;arc 1 1 0");
        GainGraphs oddLoop = Check.of("graph 2 3;arc 1 1 2");
        for (int colors = 1; colors <= 5; colors++) {
            int k = colors;
            long t = k + 1;
            CHECK.due("30: triangle, " + k, t * (t - 1) * (t - 2), () -> triangle.colorings(k));
            CHECK.due("31: triangle, " + k, (t - 1) * (t - 2) * (t - 3), () -> triangle.zeroFree(k));
            long f = 2 * k + 1;
            CHECK.due("30: four, " + k, (f - 1) * (f - 3), () -> four.colorings(k));
            CHECK.due("31: four, " + k, (f - 1) * (f - 3), () -> four.zeroFree(k));
            long b = 12 * k + 1;
            CHECK.due("30: bare, " + k, b * b * b * b * b * b * b * b, () -> bare.colorings(k));
            CHECK.due("31: bare, " + k, (b - 1) * (b - 1) * (b - 1) * (b - 1) * (b - 1) * (b - 1) * (b - 1) * (b - 1), () -> bare.zeroFree(k));
            CHECK.due("30: a loop of gain 0, " + k, 0, () -> loop.colorings(k));
            CHECK.due("31: a loop of gain 0, " + k, 0, () -> loop.zeroFree(k));
            CHECK.due("30: another loop, " + k, (3 * k + 1) * 3 * k, () -> oddLoop.colorings(k));
            CHECK.due("31: another loop, " + k, 9 * k * k, () -> oddLoop.zeroFree(k));
        }
        // A color is forbidden across each of three arcs of gains 0, 1, 2 with the same i, so i must differ.
        GainGraphs thick = Check.of("graph 2 3;arc 0 1 0;arc 0 1 1;arc 0 1 2");
        CHECK.due("30: thick", 6, () -> thick.colorings(1));
        CHECK.due("31: thick", 0, () -> thick.zeroFree(1));
        CHECK.due("31: thick", 18, () -> thick.zeroFree(2));
    }

    private static void coefficients() {
        sums(TRIANGLE, 0, 2, -3, 1);
        sums(FOUR, 3, -4, 1);
        sums("graph 3 2;arc 0 1 1;arc 1 2 0;arc 0 2 0", -1, 3, -3, 1);
        sums("graph 8 1", 0, 0, 0, 0, 0, 0, 0, 0, 1);
        sums("graph 1 5;arc 0 0 3", -1, 1);
        sums("graph 1 5;arc 0 0 0", 0, 0);
    }

    private static void sums(String text, long... due) {
        GainGraphs x = Check.of(text);
        for (int power = 0; power <= 8; power++) {
            int k = power;
            CHECK.due("32: coefficient(" + k + ") of " + text, k < due.length ? due[k] : 0, () -> x.coefficient(k));
        }
    }

    private static void oneByOne() {
        GainGraphs x = Check.of("graph 2 2;arc 0 1 1");
        int[][] due = {{0, 1}, {0, 2}, {1, 0}, {1, 1}, {2, 0}, {2, 2}};
        for (int index = 0; index < due.length; index++) {
            for (int vertex = 0; vertex < 2; vertex++) {
                color(x, 1, index, vertex, due[index][vertex]);
            }
        }
        color(x, 1, 6, 0, -1);
        color(x, 1, Integer.MAX_VALUE, 1, -1);
        color(x, 2, 0, 1, 1);
        color(x, 2, 4, 0, 1);
        color(x, 2, 5, 1, 1);
        color(x, 2, 6, 1, 3);
        color(x, 2, 19, 0, 4);
        color(x, 2, 19, 1, 4);
        color(x, 2, 20, 1, -1);
        GainGraphs y = Check.of("graph 4 3;arc 3 0 1;arc 2 1 0;arc 2 2 1;arc 3 1 2;arc 1 1 2");
        GainGraphs z = Check.of("graph 2 3;arc 0 0 0");
        int count = (int) y.colorings(2);
        int last = -1;
        for (int index = 0; index < count; index++) {
            int code = 0;
            int number = 0;
            for (int vertex = 0; vertex < 4; vertex++) {
                int color = y.colorAt(2, index, vertex);
                number = number * 7 + color;
                code += color * (vertex == 0 ? 1 : vertex == 1 ? 7 : vertex == 2 ? 49 : 343);
            }
            int it = code;
            CHECK.due("33: coloring " + index + " is proper", true, () -> y.isProper(2, it));
            CHECK.told("33: coloring " + index + " is behind the last", "true", String.valueOf(number > last));
            last = number;
        }
        color(y, 2, count, 3, -1);
        color(z, 5, 0, 0, -1);
    }

    private static void color(GainGraphs x, int colors, int index, int vertex, int due) {
        CHECK.due("33: colorAt(" + colors + ", " + index + ", " + vertex + ")", due, () -> x.colorAt(colors, index, vertex));
    }

    private static void tooMany() {
        GainGraphs x = Check.of("graph 3 12");
        color(x, 4, 49 * 49 * 48 + 5 * 49 + 7, 0, 48);
        color(x, 4, 49 * 49 * 48 + 5 * 49 + 7, 1, 5);
        color(x, 4, 49 * 49 * 48 + 5 * 49 + 7, 2, 7);
        color(x, 5, 0, 0, -4);
        color(x, 5, Integer.MAX_VALUE, 2, -4);
        color(Check.of("graph 1 12"), 5, 60, 0, 60);
        color(Check.of("graph 8 3"), 1, 65535, 7, 3);
        color(Check.of("graph 8 4"), 1, 0, 0, -4);
        color(Check.of("graph 8 12"), 5, 0, 0, -4);
        color(Check.of("graph 8 3;arc 0 0 0"), 1, 0, 0, -1);
        color(Check.of("graph 5 2;arc 4 4 0"), 5, 0, 0, -1);
        // 11 colors: 161051 for 5 vertices, and 21 colors: 194481 for 4; 58 is not a number of colors, 59 would be too many.
        color(Check.of("graph 5 2"), 5, 161050, 0, 10);
        color(Check.of("graph 4 10"), 2, 194480, 3, 20);
        color(Check.of("graph 4 11"), 2, 0, 3, -4);
    }

    private static void leastColors() {
        CHECK.due("34: bare", 1, () -> Check.of("graph 8 1").leastColors());
        CHECK.due("34: triangle", 2, () -> Check.of(TRIANGLE).leastColors());
        CHECK.due("34: four", 2, () -> Check.of(FOUR).leastColors());
        CHECK.due("34: all of five", 4, () -> Check.of("graph 5 1;arc 0 1 0;arc 0 2 0;arc 0 3 0;arc 0 4 0;arc 1 2 0;arc 1 3 0;"
                + "arc 1 4 0;arc 2 3 0;arc 2 4 0;arc 3 4 0").leastColors());
        CHECK.due("34: a loop", -1, () -> Check.of("graph 5 7;arc 3 3 0").leastColors());
        CHECK.due("34: another loop", 1, () -> Check.of("graph 5 7;arc 3 3 6").leastColors());
        CHECK.due("34: thick triangle", 2, () -> Check.of("graph 3 2;arc 0 1 0;arc 0 1 1;arc 0 2 0;arc 0 2 1;arc 1 2 0;arc 1 2 1")
                .leastColors());
        CHECK.due("34: thick triangle with loops", 3, () -> Check.of("graph 3 2;arc 0 1 0;arc 0 1 1;arc 0 2 0;arc 0 2 1;arc 1 2 0;"
                + "arc 1 2 1;arc 0 0 1;arc 1 1 1;arc 2 2 1").leastColors());
    }

    private static void proper() {
        GainGraphs x = Check.of("graph 2 2;arc 0 1 1");
        boolean[] due = {false, true, true, true, true, false, true, false, true};
        for (int code = 0; code < due.length; code++) {
            int k = code;
            CHECK.due("35: isProper(1, " + k + ")", due[k], () -> x.isProper(1, k));
        }
        CHECK.refused("35: isProper(1, 9)", Check.ARGUMENT, () -> x.isProper(1, 9));
        CHECK.due("35: isProper(2, 9)", true, () -> x.isProper(2, 9));
        CHECK.due("35: isProper(2, 24)", true, () -> x.isProper(2, 24));
        CHECK.due("35: isProper(2, 19)", false, () -> x.isProper(2, 19));
        CHECK.refused("35: isProper(2, 25)", Check.ARGUMENT, () -> x.isProper(2, 25));
        GainGraphs y = Check.of("graph 8 12;arc 7 7 0");
        CHECK.due("35: the greatest number", false, () -> y.isProper(5, Integer.MAX_VALUE));
        GainGraphs z = Check.of("graph 8 12;arc 0 7 3;arc 7 7 5;arc 1 2 0");
        CHECK.due("35: 0 at both ends", false, () -> z.isProper(1, 5));
        CHECK.due("35: 0 at an odd loop", false, () -> z.isProper(1, 5 + 13));
        CHECK.due("35: one vertex", true, () -> Check.of("graph 1 12;arc 0 0 4").isProper(5, 60));
        CHECK.due("35: one vertex of color 0", false, () -> Check.of("graph 1 12;arc 0 0 4").isProper(5, 0));
        CHECK.refused("35: one vertex, 61", Check.ARGUMENT, () -> Check.of("graph 1 12;arc 0 0 4").isProper(5, 61));
    }

    private static void badNumbers() {
        GainGraphs x = Check.of("graph 2 2;arc 0 1 1");
        for (int colors : new int[] {-1, 0, 6, Integer.MAX_VALUE, Integer.MIN_VALUE}) {
            CHECK.refused("30: colorings(" + colors + ")", Check.ARGUMENT, () -> x.colorings(colors));
            CHECK.refused("31: zeroFree(" + colors + ")", Check.ARGUMENT, () -> x.zeroFree(colors));
            CHECK.refused("33: colorAt(" + colors + ", 0, 0)", Check.ARGUMENT, () -> x.colorAt(colors, 0, 0));
            CHECK.refused("35: isProper(" + colors + ", 0)", Check.ARGUMENT, () -> x.isProper(colors, 0));
        }
        for (int power : new int[] {-1, 9, Integer.MAX_VALUE}) {
            CHECK.refused("32: coefficient(" + power + ")", Check.ARGUMENT, () -> x.coefficient(power));
        }
        CHECK.refused("33: colorAt(1, -1, 0)", Check.ARGUMENT, () -> x.colorAt(1, -1, 0));
        CHECK.refused("33: too many, but a bad index first", Check.ARGUMENT, () -> Check.of("graph 8 12").colorAt(5, -1, 0));
        for (int vertex : new int[] {-1, 2, Integer.MIN_VALUE}) {
            CHECK.refused("33: colorAt(1, 0, " + vertex + ")", Check.INDEX, () -> x.colorAt(1, 0, vertex));
            CHECK.refused("33: the vertex comes first", Check.INDEX, () -> x.colorAt(6, -1, vertex));
        }
        CHECK.refused("35: isProper(1, -1)", Check.ARGUMENT, () -> x.isProper(1, -1));
        CHECK.refused("35: isProper(1, MIN)", Check.ARGUMENT, () -> x.isProper(1, Integer.MIN_VALUE));
    }
}
