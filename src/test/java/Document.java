import java.io.IOException;
import java.io.UncheckedIOException;
import java.nio.file.Files;
import java.nio.file.Path;
import java.util.ArrayList;
import java.util.LinkedHashMap;
import java.util.List;
import java.util.Map;

/** The words of ../shared/DOC.md, place by place, and which of them a test has quoted; read at the project's root. */
final class Document {
    private static final String TERMS_PLACE = "[A-Z]+( [A-Z]+)*";

    private final Map<String, String> words = new LinkedHashMap<>();
    private final Map<String, boolean[]> quoted = new LinkedHashMap<>();

    Document() {
        try {
            read(Files.readAllLines(Path.of("../shared/DOC.md")));
        } catch (IOException missing) {
            throw new UncheckedIOException(missing);
        }
        words.forEach((place, text) -> quoted.put(place, new boolean[text.length()]));
    }

    private void read(List<String> lines) {
        String place = "";
        for (String line : lines) {
            if (line.startsWith("#")) {
                place = line.replaceAll("^#+ ", "").replaceAll(":.*", "");
            } else if (line.matches(TERMS_PLACE)) {
                place = line;
            } else if (!line.isBlank()) {
                words.merge(place, line.strip(), (ahead, more) -> ahead + " " + more);
            }
        }
    }

    /** Marks words as quoted wherever they stand at a place; tells whether they stand there. */
    boolean quote(String place, String sentence) {
        String text = words.getOrDefault(place, "");
        int from = text.indexOf(sentence);
        boolean isThere = from >= 0;
        while (from >= 0) {
            for (int at = from; at < from + sentence.length(); at++) {
                quoted.get(place)[at] = true;
            }
            from = text.indexOf(sentence, from + 1);
        }
        return isThere;
    }

    /** Tells what no test has quoted of the terms and the promises. */
    List<String> unquoted() {
        List<String> unquoted = new ArrayList<>();
        words.forEach((place, text) -> {
            if (place.matches(TERMS_PLACE) || place.startsWith("Promise ")) {
                addUnquoted(place, text, unquoted);
            }
        });
        return unquoted;
    }

    private void addUnquoted(String place, String text, List<String> unquoted) {
        StringBuilder stretch = new StringBuilder();
        for (int at = 0; at <= text.length(); at++) {
            if (at < text.length() && !quoted.get(place)[at]) {
                stretch.append(text.charAt(at));
            } else if (stretch.chars().anyMatch(Character::isLetterOrDigit)) {
                unquoted.add(place + ": " + stretch);
                stretch.setLength(0);
            } else {
                stretch.setLength(0);
            }
        }
    }
}
