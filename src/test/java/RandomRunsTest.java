import java.lang.reflect.InvocationTargetException;
import java.lang.reflect.Method;
import java.lang.reflect.Modifier;
import java.util.ArrayList;
import java.util.Comparator;
import java.util.List;

/** Runs of made-up calls on the class and on the naive model: each answer and each exception must be the same. */
public final class RandomRunsTest {
    private static final int RUNS = 1200;
    private static final int CALLS = 200;
    private static final List<Method> METHODS = new ArrayList<>();

    private long seed;
    private int wrong = 0;
    private final StringBuilder story = new StringBuilder();
    private GainGraphs graph;
    private Naive naive;

    public static void main(String[] args) throws Exception {
        for (Method method : GainGraphs.class.getDeclaredMethods()) {
            if (Modifier.isPublic(method.getModifiers())) {
                METHODS.add(method);
            }
        }
        METHODS.sort(Comparator.comparing(Method::getName));
        RandomRunsTest test = new RandomRunsTest();
        for (int run = 0; run < RUNS && test.wrong < 5; run++) {
            test.run(run);
        }
        System.out.println(test.wrong == 0 ? RUNS + " runs of " + CALLS + " calls agree" : test.wrong + " answers differ");
        if (test.wrong != 0) {
            System.exit(1);
        }
    }

    private int below(int limit) {
        seed = seed * 6364136223846793005L + 1442695040888963407L;
        return (int) ((seed >>> 33) % limit);
    }

    private void run(int run) throws Exception {
        seed = run * 7919L + 1;
        below(2);
        graph = new GainGraphs();
        naive = new Naive();
        story.setLength(0);
        for (int call = 0; call < CALLS && wrong < 5; call++) {
            if (call == 0 && run % 10 != 0 || below(60) == 0) {
                loadText(below(4) == 0 ? spoilt(text(run)) : text(run));
            } else {
                ask(METHODS.get(below(METHODS.size())));
            }
        }
        allAgree(run);
    }

    /** At the end of a run everything that can be seen is compared, whatever the run has asked. */
    private void allAgree(int run) throws Exception {
        for (Method method : METHODS) {
            boolean isQuestion = method.getParameterCount() == 1 && method.getParameterTypes()[0] == int.class
                    && List.of("count", "painted", "total", "isLike", "coefficient").contains(method.getName());
            for (int k = 0; isQuestion && k < 9; k++) {
                compare(method, new Object[] {k});
            }
        }
        for (int arc = 0; arc < 13; arc++) {
            for (int what = 0; what < 5; what++) {
                compare(GainGraphs.class.getMethod("arc", int.class, int.class), new Object[] {arc, what});
            }
        }
    }

    private String text(int run) {
        int small = run % 3;
        int n = 1 + below(small == 0 ? 3 : small == 1 ? 5 : 8);
        int m = 1 + below(small == 2 ? 12 : 4);
        int arcs = below(20) == 0 ? 10 + below(4) : below(small == 2 ? 10 : 8);
        StringBuilder text = new StringBuilder("graph " + n + " " + m);
        for (int k = 0; k < arcs; k++) {
            text.append(below(2) == 0 ? "; " : ";").append("arc ").append(below(n)).append(' ').append(below(n))
                    .append(' ').append(below(m));
            if (below(2) == 0) {
                text.append(' ').append(below(5) == 0 ? below(100) : below(4));
            }
            if (below(6) == 0 && k < 12) {
                text.append(" ; mark ").append(below(k + 1)).append(below(3) == 0 ? " " + below(k + 1) : "");
            }
        }
        return text.toString();
    }

    private String spoilt(String text) {
        String signs = "; 0123456789arcmgphkxZ~-\u00e9";
        StringBuilder spoilt = new StringBuilder(text);
        for (int k = 1 + below(2); k > 0; k--) {
            int place = below(spoilt.length());
            char sign = signs.charAt(below(signs.length()));
            switch (below(4)) {
                case 0 -> spoilt.setCharAt(place, sign);
                case 1 -> spoilt.insert(place, sign);
                case 2 -> spoilt.deleteCharAt(place);
                default -> spoilt.setLength(Math.max(1, place));
            }
        }
        return spoilt.toString();
    }

    private void loadText(String text) throws Exception {
        for (int start = 0; start < text.length(); start += 8) {
            long bytes = 0;
            for (int k = start; k < Math.min(start + 8, text.length()); k++) {
                bytes = bytes << 8 | text.charAt(k) & 255;
            }
            compare(GainGraphs.class.getMethod("append", long.class), new Object[] {bytes});
        }
        for (String name : new String[] {"load", "loadError", "loadStatement"}) {
            compare(GainGraphs.class.getMethod(name), new Object[0]);
        }
    }

    private void ask(Method method) throws Exception {
        if (method.getName().equals("append") && below(4) != 0 || method.getName().equals("load") && below(8) != 0) {
            return;
        }
        Class<?>[] types = method.getParameterTypes();
        Object[] given = new Object[types.length];
        for (int k = 0; k < types.length; k++) {
            given[k] = types[k] == boolean.class ? (Object) (below(2) == 0)
                    : types[k] == long.class ? (Object) (long) (below(3) * 0x20003100L) : (Object) number(method.getName(), k);
        }
        compare(method, given);
    }

    /** What the parameters of a method mean: v vertex, a arc, s set, g gain, k colors, c color, w weight, t slot, n small, i index, x code. */
    private static String kinds(String name) {
        return switch (name) {
            case "arc" -> "an";
            case "between" -> "vv";
            case "componentOf", "isBalancedAt", "potential" -> "sv";
            case "walk" -> "vaaa";
            case "components", "isBalanced", "rank", "closure", "balancedClosure", "isFlat", "isIndependent", "circuitKind",
                "weight", "mark" -> "s";
            case "isBridge", "normalGain", "basesWithout", "dropArc", "turnArc", "contract" -> "a";
            case "colorings", "zeroFree", "setPalette" -> "k";
            case "colorAt" -> "kiv";
            case "isProper" -> "kx";
            case "painted", "choices", "clean" -> "v";
            case "clash", "paint" -> "vc";
            case "isLike", "saveSnapshot", "restoreSnapshot" -> "t";
            case "coloringsWithout", "coloringsMerged" -> "ak";
            case "addArc" -> "vvg";
            case "setGain" -> "ag";
            case "setWeight" -> "aw";
            case "switchAt" -> "vg";
            default -> "nnn";
        };
    }

    private int number(String name, int place) {
        if (below(50) == 0) {
            int[] far = {-1, -2, 12, 13, 4096, 8, Integer.MIN_VALUE, Integer.MAX_VALUE, 1 << 20, 6};
            return far[below(far.length)];
        }
        int arcs = naive.count(2);
        return switch (kinds(name).charAt(place)) {
            case 'v' -> below(naive.count(0));
            case 'a' -> name.equals("walk") && below(4) == 0 ? -1 : below(Math.max(1, arcs));
            case 's' -> below(2) == 0 ? below(1 << arcs) : below(1 << arcs) & below(1 << arcs);
            case 'g' -> below(naive.count(1));
            case 'k' -> 1 + below(below(4) == 0 ? 5 : 2);
            case 'c' -> below(below(2) == 0 ? 3 : naive.count(1) * naive.count(5) + 1);
            case 'w' -> below(below(3) == 0 ? 100 : 4);
            case 't' -> below(2);
            case 'i' -> below(below(3) == 0 ? 3000 : 30);
            case 'x' -> below(below(3) == 0 ? 1 << 30 : 200);
            default -> below(below(3) == 0 ? 9 : 4);
        };
    }

    private static boolean isTooDear(Naive naive, Method method) {
        return naive.count(2) > 9 && List.of("circuits", "flats", "cycles", "bases", "basesWithout", "circuitKind").contains(method.getName())
                && naive.count(0) > 6;
    }

    private void compare(Method method, Object[] given) throws Exception {
        if (isTooDear(naive, method)) {
            return;
        }
        Method other = Naive.class.getMethod(method.getName(), method.getParameterTypes());
        String got = answer(method, graph, given);
        String want = answer(other, naive, given);
        story.append(method.getName()).append(java.util.Arrays.toString(given)).append(" = ").append(got).append('\n');
        if (!got.equals(want)) {
            wrong++;
            System.out.println("after\n" + story + "due is " + want);
        }
    }

    private static String answer(Method method, Object object, Object[] given) throws Exception {
        try {
            return String.valueOf(method.invoke(object, given));
        } catch (InvocationTargetException e) {
            return "throws." + e.getCause().getClass().getSimpleName();
        }
    }
}
