import java.lang.management.ManagementFactory;

/**
 * The room of a run: what a new object takes, and that 512 of the dearest calls take next to nothing more.
 * The limits of LANGUAGE.md are for all calls of one run together; these are far below them.
 */
public final class RoomTest {
    private static final String LARGE = "graph 8 3;arc 0 1 1;arc 1 2 2;arc 2 0 1;arc 3 4 2;arc 4 5 0;arc 5 3 2;arc 6 7 1;arc 7 6 0;"
            + "arc 0 3 0;arc 4 7 1;arc 6 6 2;arc 2 2 2";
    private static final long OBJECT_BYTES = 100_000;
    private static final long RUN_BYTES = 20_000;

    public static void main(String[] args) {
        GainGraphs first = new GainGraphs();
        Check.append(first, LARGE);
        run(first);
        long start = taken();
        GainGraphs x = new GainGraphs();
        long made = taken();
        Check.append(x, LARGE);
        long appended = taken();
        run(x);
        long ended = taken();
        Check check = new Check();
        check.told("a new object is small (" + (made - start) + " bytes)", "true", String.valueOf(made - start < OBJECT_BYTES));
        check.told("calls take no room (" + (ended - appended) + " bytes)", "true", String.valueOf(ended - appended < RUN_BYTES));
        check.finish();
    }

    private static long taken() {
        return ((com.sun.management.ThreadMXBean) ManagementFactory.getThreadMXBean()).getCurrentThreadAllocatedBytes();
    }

    private static long run(GainGraphs x) {
        long sum = x.load();
        for (int round = 0; round < 20; round++) {
            sum += x.switchAt(round % 3, 1) + x.circuits(5) + x.cycles(4, false) + x.bases() + x.flats(4) + x.leastBasis()
                    + x.frustration() + x.colorings(5) + x.zeroFree(5) + x.coefficient(3) + x.colorAt(1, 1000, 7)
                    + x.leastColors() + x.completions() + x.finish() + x.setPalette(1) + x.saveSnapshot(round & 1)
                    + x.basesWithout(3) + x.coloringsWithout(2, 5) + x.coloringsMerged(2, 5) + x.markClosure()
                    + x.circuitKind(7) + x.normalGain(11) + (x.isLike(0) ? 1 : 0) + x.closure(77) + x.undo() + x.walk(0, 0, 1, 2);
        }
        return sum;
    }
}
