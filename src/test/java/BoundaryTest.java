import java.io.IOException;
import java.util.ArrayList;
import java.util.HashSet;
import java.util.List;
import java.util.Map;
import java.util.Set;

/** Promises 1 to 41 and the words that they share: each sentence that names a boundary case has a test of its own. */
public final class BoundaryTest {
    private static final int PROMISES = 41;

    public static void main(String[] args) throws IOException {
        Map<Integer, List<String>> sentences = Document.sentences();
        Set<String> tested = new HashSet<>();
        for (Edge edge : edges()) {
            String sentence = sentence(edge, sentences.getOrDefault(edge.promise(), List.of()));
            Check.about(told(edge.promise(), sentence));
            edge.test().run();
            tested.add(told(edge.promise(), sentence));
        }
        Check.about("");
        Check.same("promises", sentences.size() - 1, PROMISES);
        sentences.forEach((promise, all) -> allTested(promise, all, tested));
        Check.end("BoundaryTest");
    }

    private static List<Edge> edges() {
        List<Edge> all = new ArrayList<>();
        all.addAll(TermEdges.all());
        all.addAll(PlaceEdges.all());
        all.addAll(NumberEdges.all());
        all.addAll(LabelEdges.all());
        all.addAll(ReferenceEdges.all());
        all.addAll(TallyEdges.all());
        return all;
    }

    private static String told(int promise, String sentence) {
        return (promise == Edge.TERMS ? "terms" : "promise " + promise) + ", " + sentence;
    }

    /** Tells a test whose sentence does not stand in the document, or not once. */
    private static String sentence(Edge edge, List<String> all) {
        List<String> found = all.stream().filter(one -> one.startsWith(edge.begins())).toList();
        Check.same("sentences of " + edge.promise() + " that begin with " + edge.begins(), found.size(), 1);
        return found.isEmpty() ? edge.begins() : found.get(0);
    }

    private static void allTested(int promise, List<String> all, Set<String> tested) {
        for (String sentence : all) {
            if (Document.namesBoundary(promise, sentence)) {
                Check.same("tested is " + told(promise, sentence), tested.contains(told(promise, sentence)), true);
            }
        }
        Check.same("tests of " + told(promise, ""), tested.stream().anyMatch(t -> t.startsWith(told(promise, ""))),
                true);
    }
}
