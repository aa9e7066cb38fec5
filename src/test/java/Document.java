import java.io.IOException;
import java.io.UncheckedIOException;
import java.nio.file.Files;
import java.nio.file.Path;
import java.util.ArrayList;
import java.util.HashSet;
import java.util.List;
import java.util.Map;
import java.util.Set;
import java.util.TreeMap;
import java.util.regex.Matcher;
import java.util.regex.Pattern;

/** The document's sentences, and which of them no test names. Started at the project's root. */
final class Document {
    private static final Path PATH = Path.of("../shared/DOC.md");
    private static final int TERMS = 0;

    /** By promise, the "Terms" as 0. */
    private final Map<Integer, List<String>> sentences = new TreeMap<>();
    private final Set<String> named = new HashSet<>();

    Document() {
        String text = read();
        Matcher parts = Pattern.compile("(?ms)^## (Terms|Promise (\\d+): [^\\n]*)$(.*?)(?=^## )").matcher(text);
        while (parts.find()) {
            int promise = parts.group(2) == null ? TERMS : Integer.parseInt(parts.group(2));
            sentences.put(promise, sentencesOf(parts.group(3)));
        }
    }

    private static String read() {
        try {
            return Files.readString(PATH);
        } catch (IOException e) {
            throw new UncheckedIOException(e);
        }
    }

    private static List<String> sentencesOf(String part) {
        List<String> all = new ArrayList<>();
        String plain = part.replaceAll("```\\w*", "").replaceAll("\\s+", " ").trim();
        // a call's form is no sentence, the number of a term neither; ranges have points with a blank ahead
        plain = plain.replaceFirst("^`[^`]*`: ", "");
        for (String sentence : plain.split("(?<=[^.\\s])\\.(?=\\s|$)")) {
            if (!sentence.isBlank() && !sentence.trim().matches("\\d+")) {
                all.add(sentence.trim());
            }
        }
        return all;
    }

    int promises() {
        return sentences.size() - 1;
    }

    /** Whether a promise says these words within one sentence, which a test stands for from now on. */
    boolean name(int promise, String words) {
        boolean found = false;
        for (String sentence : sentences.getOrDefault(promise, List.of())) {
            if (sentence.contains(words)) {
                named.add(promise + sentence);
                found = true;
            }
        }
        return found;
    }

    List<String> withoutTest() {
        List<String> all = new ArrayList<>();
        sentences.forEach((promise, list) -> list.forEach(sentence -> {
            if (!named.contains(promise + sentence)) {
                all.add("promise " + promise + ": " + sentence);
            }
        }));
        return all;
    }
}
