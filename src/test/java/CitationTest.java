import java.io.IOException;
import java.nio.file.Files;
import java.nio.file.Path;
import java.util.ArrayList;
import java.util.List;
import java.util.Set;
import java.util.regex.Matcher;
import java.util.regex.Pattern;
import java.util.stream.Stream;

/**
 * No sentence of the document is without a test: every CHECK.says(..) of the tests must be words of
 * the document, and what no test says must be among the words below, which tell no answer and no change.
 */
public final class CitationTest {
    private static final Set<String> WITHOUT_ANSWER = Set.of(
        "so that", "and", "Otherwise", "what later calls answer is free", "a PATH", "a JOIN: see below",
        "A STEP of a task, by its phase", "LOCK", "CHANGES. PUT at a leaf", "POST of a page", "REMOVE",
        "Of a page");
    /** The first words of the last part, which tells what is free. */
    private static final String NOT_PROMISED = "How the state is held inside the object is free";
    private static final Pattern SAYS = Pattern.compile("CHECK\\.says\\(\\s*");
    private static final Pattern TEXT = Pattern.compile("\\G\\s*\\+?\\s*\"((?:[^\"\\\\]|\\\\.)*)\"");
    private static final Pattern NAME = Pattern.compile("\\G([A-Z_]+)\\)");
    private static final Check CHECK = new Check();

    public static void main(String[] args) throws IOException {
        Path project = Path.of(System.getProperty("project", "."));
        Path file = project.resolve("../shared/DOC.md");
        if (!Files.exists(file)) {
            System.out.println("the document is not at " + file + ": nothing to look at");
            return;
        }
        String whole = words(Files.readString(file));
        int end = whole.indexOf(NOT_PROMISED);
        String document = end < 0 ? whole : whole.substring(0, end);
        boolean[] said = new boolean[document.length()];
        for (String citation : citations(project.resolve("src/test/java"))) {
            CHECK.holds(whole.contains(citation), () -> "not in the document: " + citation);
            for (int at = document.indexOf(citation); at >= 0; at = document.indexOf(citation, at + 1)) {
                for (int k = at; k < at + citation.length(); k++) {
                    said[k] = true;
                }
            }
        }
        for (String rest : notSaid(document, said)) {
            CHECK.holds(WITHOUT_ANSWER.contains(rest), () -> "no test says: " + rest);
        }
        CHECK.end();
    }

    /** The sentences without headings, signatures and marks. */
    private static String words(String text) {
        return text.replaceAll("(?s)```java.*?```", "")
            .replaceAll("(?m)^#.*$|^```.*$|^`.*?`:", "")
            .replaceAll("\\s+", " ");
    }

    private static List<String> citations(Path directory) throws IOException {
        List<String> found = new ArrayList<>();
        try (Stream<Path> files = Files.list(directory)) {
            for (Path file : (Iterable<Path>) files.sorted()::iterator) {
                if (!file.endsWith("CitationTest.java")) {
                    addCitations(found, Files.readString(file));
                }
            }
        }
        return found;
    }

    private static void addCitations(List<String> found, String source) {
        Matcher says = SAYS.matcher(source);
        while (says.find()) {
            Matcher name = NAME.matcher(source);
            int from = says.end();
            if (name.find(from)) {
                from = source.indexOf("String " + name.group(1) + " = ") + ("String " + name.group(1) + " = ").length();
            }
            StringBuilder words = new StringBuilder();
            Matcher text = TEXT.matcher(source);
            for (boolean more = text.find(from); more; more = text.find()) {
                words.append(text.group(1));
            }
            found.add(words.toString());
        }
    }

    private static List<String> notSaid(String document, boolean[] said) {
        StringBuilder rest = new StringBuilder();
        for (int k = 0; k < said.length; k++) {
            rest.append(said[k] ? '\n' : document.charAt(k));
        }
        List<String> parts = new ArrayList<>();
        for (String part : rest.toString().split("\n")) {
            String bare = part.replaceAll("^[ .,;:()]+|[ .,;:()]+$", "");
            if (!bare.isEmpty()) {
                parts.add(bare);
            }
        }
        return parts;
    }
}
