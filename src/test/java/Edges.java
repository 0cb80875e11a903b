import java.io.IOException;
import java.io.UncheckedIOException;
import java.nio.file.Files;
import java.nio.file.Path;
import java.util.ArrayList;
import java.util.HashSet;
import java.util.LinkedHashMap;
import java.util.List;
import java.util.Map;
import java.util.Set;
import java.util.regex.Pattern;

/**
 * The sentences of the document that name an edge, each with a test of its own. A sentence that the
 * document does not have at that place is a fault, and so is one there that no test is told for.
 */
final class Edges {
    /** What a sentence of a promise says, if it names an edge. */
    private static final Pattern NAMES_EDGE = Pattern.compile("Throws|REFUSED|\"\"|any number|4000000000|itself"
        + "|the same|stay|at most|from 0 on|one by one|likewise|wraps|none|empty|below 0|other numbers|with this"
        + "|first|can be done|seven|0 YEARS|its NUMBER|is told");

    private final Map<String, List<String>> sentences = new LinkedHashMap<>();
    private final Set<String> seen = new HashSet<>();

    /** The first argument of a test's main method is the folder of the project. */
    Edges(String[] args) {
        Path root = Path.of(args.length > 0 ? args[0] : ".");
        String place = "";
        for (String line : lines(root.resolve("../shared/DOC.md"))) {
            if (line.startsWith("## ") || line.matches("\\d+\\. \\w+")) {
                place = line.replaceFirst("^## ", "").replaceFirst("(Promise \\d+):.*", "$1");
            } else if (!line.isBlank() && !line.startsWith("`")) {
                List<String> there = sentences.computeIfAbsent(place, key -> new ArrayList<>());
                there.addAll(List.of(line.strip().replaceFirst("^- ", "").split("(?<=\\.)\\s+")));
            }
        }
    }

    private static List<String> lines(Path document) {
        try {
            return Files.readAllLines(document);
        } catch (IOException e) {
            throw new UncheckedIOException(e);
        }
    }

    /** The test of a sentence, or of a part of one, at a place of the document. */
    void at(String place, String sentence, Runnable test) {
        see(place, sentence);
        int asked = Due.asked();
        test.run();
        Due.is("a test asks something for: " + sentence, Due.asked() > asked, true);
    }

    void promise(int number, String sentence, Runnable test) {
        at("Promise " + number, sentence, test);
    }

    /** A sentence that names no edge. */
    void none(String place, String sentence) {
        see(place, sentence);
    }

    private void see(String place, String sentence) {
        Due.at(place);
        boolean isThere = false;
        for (String one : sentences.getOrDefault(place, List.of())) {
            if (one.contains(sentence)) {
                isThere = true;
                seen.add(place + one);
            }
        }
        Due.is("the document says: " + sentence, isThere, true);
    }

    /** Each sentence at the place has been told here. */
    void allOf(String place) {
        Due.at(place);
        for (String one : sentences.getOrDefault(place, List.of(""))) {
            Due.is("there is a test for: " + one, seen.contains(place + one), true);
        }
    }

    /** Each sentence of these promises that names an edge has been told here. */
    void allOfPromises(int from, int to) {
        for (int number = from; number <= to; number++) {
            String place = "Promise " + number;
            Due.at(place);
            for (String one : sentences.getOrDefault(place, List.of("REFUSED"))) {
                if (NAMES_EDGE.matcher(one).find()) {
                    Due.is("there is a test for: " + one, seen.contains(place + one), true);
                }
            }
        }
    }
}
