import java.io.IOException;
import java.nio.file.Files;
import java.nio.file.Path;
import java.util.ArrayList;
import java.util.LinkedHashMap;
import java.util.List;
import java.util.Map;

/**
 * The sentences of the document. A place in it is "Terms, Lots" for the paragraph of the terms that begins so,
 * "Promise 4" for a promise, and the heading itself for any other part.
 */
final class Doc {
    private static final Path FILE = Path.of("../shared/DOC.md");
    private static final Map<String, String> PLACES = read();

    private Doc() {
    }

    /** False if no document lies where it should: then quotes cannot be compared with it. */
    static boolean isThere() {
        return !PLACES.isEmpty();
    }

    static List<String> places() {
        return new ArrayList<>(PLACES.keySet());
    }

    /**
     * The sentences of a place, without the head of a method and its list of arguments; a line "Throws .." or
     * "Returns .." is a sentence, although it has no full stop.
     */
    static List<String> sentences(String place) {
        List<String> sentences = new ArrayList<>();
        String text = PLACES.getOrDefault(place, "").replaceAll("^`[^`]*`: ", "")
                .replaceAll(" - `\\w+`: .*?(?= Returns )", "");
        for (String line : text.split(" (?=Throws `|Returns )|(?<=\\.) (?=[A-Z])")) {
            sentences.add(line.trim());
        }
        return sentences;
    }

    /** The heads of the public face, without the class and what is imported. */
    static List<String> face() {
        List<String> heads = new ArrayList<>();
        for (String head : PLACES.getOrDefault("The public face", "").split("[;{}]")) {
            if (head.trim().matches("public .*\\(.*")) {
                heads.add(head.trim());
            }
        }
        return heads;
    }

    /** The head of a method as it stands ahead of the sentences of a promise. */
    static String head(String promise) {
        return PLACES.getOrDefault(promise, "").replaceAll("^`([^`]*)`: .*", "$1");
    }

    private static Map<String, String> read() {
        Map<String, String> places = new LinkedHashMap<>();
        if (!Files.isReadable(FILE)) {
            return places;
        }
        try {
            for (String part : Files.readString(FILE).split("\n## ")) {
                String heading = part.substring(0, part.indexOf('\n')).trim();
                String body = part.substring(part.indexOf('\n'));
                if (heading.equals("Terms")) {
                    addTerms(places, body);
                } else {
                    places.put(heading.replaceAll("^(Promise \\d+):.*", "$1"), onOneLine(body));
                }
            }
        } catch (IOException e) {
            throw new IllegalStateException(e);
        }
        return places;
    }

    private static void addTerms(Map<String, String> places, String body) {
        for (String paragraph : body.split("\n\\s*\n")) {
            String line = onOneLine(paragraph);
            int end = line.indexOf(". ");
            boolean named = end > 0 && end < 20;
            String place = named ? "Terms, " + line.substring(0, end) : "Terms";
            places.merge(place, named ? line.substring(end + 2) : line, (a, b) -> a + " " + b);
        }
    }

    private static String onOneLine(String text) {
        return text.replaceAll("\\s+", " ").trim();
    }
}
