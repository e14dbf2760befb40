/** Counts wrong answers: each test's main makes one, asks it and ends with finish(). */
final class Check {
    interface Call {
        long answer();
    }

    interface Question {
        boolean answer();
    }

    static final String INDEX = "IndexOutOfBoundsException";
    static final String ARGUMENT = "IllegalArgumentException";

    private int asked = 0;
    private int wrong = 0;

    void due(String call, long want, Call got) {
        told(call, Long.toString(want), answerOf(got));
    }

    void due(String call, boolean want, Question got) {
        told(call, want ? "1" : "0", answerOf(() -> got.answer() ? 1 : 0));
    }

    void refused(String call, String exception, Call got) {
        told(call, "throws." + exception, answerOf(got));
    }

    void refused(String call, String exception, Question got) {
        refused(call, exception, (Call) () -> got.answer() ? 1 : 0);
    }

    void told(String call, String want, String got) {
        asked++;
        if (!want.equals(got)) {
            wrong++;
            System.out.println(call + " answered " + got + ", due is " + want);
        }
    }

    static String answerOf(Call call) {
        try {
            return Long.toString(call.answer());
        } catch (RuntimeException e) {
            return "throws." + e.getClass().getSimpleName();
        }
    }

    /** Appends a text as its caller must: eight bytes a number, the rest of the last one 0. */
    static int append(GainGraphs graph, String text) {
        int length = graph.append(0);
        for (int start = 0; start < text.length(); start += 8) {
            long bytes = 0;
            for (int k = start; k < Math.min(start + 8, text.length()); k++) {
                bytes = bytes << 8 | text.charAt(k) & 255;
            }
            length = graph.append(bytes);
        }
        return length;
    }

    static int load(GainGraphs graph, String text) {
        append(graph, text);
        return graph.load();
    }

    static GainGraphs of(String text) {
        GainGraphs graph = new GainGraphs();
        int answer = load(graph, text);
        if (answer < 0) {
            throw new IllegalStateException("the test's own text was not read: " + text + " (" + answer + ")");
        }
        return graph;
    }

    void finish() {
        System.out.println(wrong == 0 ? asked + " answers are as due" : wrong + " of " + asked + " answers are not as due");
        if (wrong != 0) {
            System.exit(1);
        }
    }
}
