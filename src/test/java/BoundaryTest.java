import java.lang.reflect.InvocationTargetException;
import java.lang.reflect.Method;
import java.util.ArrayList;
import java.util.Comparator;
import java.util.HashMap;
import java.util.List;
import java.util.Map;
import java.util.Set;

/**
 * Runs each test of a single sentence, and holds the tests against the document: each of them quotes it word by word,
 * and each sentence that is not in ORDINARY has a test of its own. Run in the project's folder.
 */
public final class BoundaryTest {
    private static final List<Class<? extends Bounds>> CLASSES = List.of(TermBounds.class, StateBounds.class, TextBounds.class, BalanceBounds.class,
            RankBounds.class, ColoringBounds.class, PaintBounds.class, LikeBounds.class,
            ActionBounds.class, KeepBounds.class);

    /** Sentences that name no boundary; the ranges of arguments that they speak of are asked behind "Throws ..". */
    private static final Set<String> ORDINARY = Set.of(
            "Gain graphs: arcs between vertices with gains that add up round and round, balanced sets and potentials, ranks and closures"
                    + " of sets of arcs, circuits, bases and flats, colorings that respect gains, counted by sets and one by one,"
                    + " painted vertex by vertex, switching, turning and contracting.",
            "what later calls answer is free.",
            "All numbers are integers.",
            "A coloring gives a color to each vertex.",
            "Returns the number.", "Returns the number;", "Returns the rank.", "Returns the sum.", "Returns the total.", "Returns the set.",
            "Returns true if it is.", "Returns these arcs, as a set.", "Returns the closure, as a set.", "Returns the basis, as a set.",
            "Returns the color;", "Returns the arc;", "Returns a number.", "Returns a number of an arc.", "Returns the kind of a circuit.",
            "- `bytes`: the bytes", "- `arc`: an arc", "- `vertex`: a vertex", "- `from`: a vertex", "- `to`: a vertex",
            "- `set`: the sum of 2^k over the arcs k of the set");

    private final Check check = new Check();
    private final Map<String, List<String>> tested = new HashMap<>();

    public static void main(String[] args) throws Exception {
        BoundaryTest test = new BoundaryTest();
        int tests = 0;
        for (Class<? extends Bounds> type : CLASSES) {
            for (Method method : type.getDeclaredMethods()) {
                if (method.isAnnotationPresent(Sentence.class)) {
                    test.run(type, method);
                    tests++;
                }
            }
        }
        test.compareWithDocument();
        System.out.println(tests + " tests of single sentences");
        test.check.finish();
    }

    private void run(Class<? extends Bounds> type, Method method) throws Exception {
        Sentence sentence = method.getAnnotation(Sentence.class);
        tested.computeIfAbsent(sentence.at(), k -> new ArrayList<>()).add(sentence.says());
        Bounds bounds = type.getDeclaredConstructor().newInstance();
        String name = type.getSimpleName() + "." + method.getName() + " (" + sentence.at() + ": " + sentence.says() + ")";
        bounds.begin(check, name);
        try {
            method.invoke(bounds);
        } catch (InvocationTargetException e) {
            check.told(name, "an end", String.valueOf(e.getCause()));
        }
        check.told(name, "asks something", bounds.asked() > 0 ? "asks something" : "asks nothing");
    }

    private void compareWithDocument() throws Exception {
        Map<String, List<String>> sentences = Document.sentences();
        check.told("places in the document", "71", String.valueOf(sentences.size()));
        for (Map.Entry<String, List<String>> place : tested.entrySet()) {
            for (String quote : place.getValue()) {
                boolean stands = sentences.getOrDefault(place.getKey(), List.of()).stream().anyMatch(s -> s.contains(quote));
                check.told(place.getKey() + " says: " + quote, "true", String.valueOf(stands));
            }
        }
        for (Map.Entry<String, List<String>> place : sentences.entrySet()) {
            for (String sentence : place.getValue()) {
                if (!ORDINARY.contains(sentence)) {
                    check.told("a test of " + place.getKey() + ": " + sentence, "", untested(place.getKey(), sentence));
                }
            }
        }
    }

    /** What no test quotes of a sentence; a sentence of several boundaries may have several tests. */
    private String untested(String place, String sentence) {
        List<String> quotes = new ArrayList<>(tested.getOrDefault(place, List.of()));
        quotes.sort(Comparator.comparing(String::length).reversed());
        String rest = sentence;
        for (String quote : quotes) {
            rest = rest.replace(quote, "");
        }
        return rest.trim();
    }
}
