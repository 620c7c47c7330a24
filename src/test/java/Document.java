import java.io.IOException;
import java.nio.file.Files;
import java.nio.file.Path;
import java.util.ArrayList;
import java.util.Arrays;
import java.util.List;
import java.util.TreeMap;
import java.util.regex.Matcher;
import java.util.regex.Pattern;

/** The sentences of ../shared/DOC.md by the number of their promise; those of "Terms" are at Edge.TERMS. */
final class Document {
    private static final Path PATH = Path.of("../shared/DOC.md");
    private static final Pattern PROMISE = Pattern.compile("## Promise (\\d+): .*?\n(.*?)(?=\n## )", Pattern.DOTALL);
    private static final Pattern TERMS = Pattern.compile("## Terms\n(.*?)(?=\n## )", Pattern.DOTALL);

    private Document() {
    }

    static TreeMap<Integer, List<String>> sentences() throws IOException {
        String text = Files.readString(PATH);
        TreeMap<Integer, List<String>> found = new TreeMap<>();
        Matcher terms = TERMS.matcher(text);
        if (terms.find()) {
            String words = terms.group(1).replaceAll("<h2>.*?</h2>", "").replaceAll("\\s+", " ").strip();
            found.put(Edge.TERMS, Arrays.asList(words.split("(?<=\\.) (?=[A-Z])")));
        }
        Matcher promise = PROMISE.matcher(text);
        while (promise.find()) {
            found.put(Integer.valueOf(promise.group(1)), lines(promise.group(2)));
        }
        return found;
    }

    private static List<String> lines(String promise) {
        List<String> found = new ArrayList<>();
        for (String line : promise.split("\n(?=\n|- |Throws|Returns)")) {
            if (!line.isBlank()) {
                found.add(line.replaceAll("\\s+", " ").strip());
            }
        }
        return found;
    }

    /** Whether there is more to be tested than an ordinary answer. */
    static boolean namesBoundary(int promise, String sentence) {
        return promise == Edge.TERMS || sentence.startsWith("Throws") || sentence.matches("(-|Returns) .*[0-9'].*");
    }
}
