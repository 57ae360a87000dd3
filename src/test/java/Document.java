import java.io.IOException;
import java.nio.file.Files;
import java.nio.file.Path;
import java.util.LinkedHashSet;
import java.util.List;
import java.util.Map;
import java.util.Set;
import java.util.TreeMap;
import java.util.regex.Matcher;
import java.util.regex.Pattern;

/** The sentences of the document: those of its terms, and those that each promise has of its own. */
final class Document {
    static final int PROMISES = 20;
    /** Stands where a promise's number stands, for sentences that hold for all promises. */
    static final int TERMS = 0;

    private static final Path PLACE = Path.of("../shared/DOC.md");
    private static final int ELSEWHERE = -1;
    private static final Pattern PROMISE = Pattern.compile("## Promise (\\d+):.*");
    /** What the class is about, and lines that repeat its face, which FaceTest looks at. */
    private static final List<String> PROMISE_NOTHING = List.of("A shop of contract texts", "Ahead of the calls",
            "The constants:");

    private final Map<Integer, Set<String>> sentences = new TreeMap<>();

    Document() throws IOException {
        for (int section = TERMS; section <= PROMISES; section++) {
            sentences.put(section, new LinkedHashSet<>());
        }
        int section = ELSEWHERE;
        for (String line : Files.readAllLines(PLACE)) {
            if (line.startsWith("#")) {
                section = sectionOf(line);
            } else if (sentences.containsKey(section)) {
                sentences.get(section).addAll(sentencesOf(line));
            }
        }
    }

    static boolean isThere() {
        return Files.exists(PLACE);
    }

    Set<String> of(int section) {
        return sentences.get(section);
    }

    private static int sectionOf(String heading) {
        Matcher matcher = PROMISE.matcher(heading);
        if (matcher.matches()) {
            return Integer.parseInt(matcher.group(1));
        }
        return heading.equals("## Terms") || heading.equals("## What it is") ? TERMS : ELSEWHERE;
    }

    private static List<String> sentencesOf(String line) {
        if (line.isBlank() || PROMISE_NOTHING.stream().anyMatch(line::startsWith)) {
            return List.of();
        }
        if (line.startsWith("- ")) {
            return List.of(line.substring(2));
        }
        int face = line.startsWith("`") ? line.indexOf("`: ") + 3 : 0;
        return List.of(line.substring(face).split("(?<=\\.) (?=[A-Z])"));
    }
}
