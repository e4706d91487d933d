import java.io.IOException;
import java.nio.file.Files;
import java.nio.file.Path;
import java.util.ArrayList;
import java.util.LinkedHashMap;
import java.util.List;
import java.util.Map;

/** Ties tests to the words of the document that they are for, and tells which of its words have no test. */
final class Sentence {
    private static final Path DOCUMENT = Path.of("../shared/DOC.md");
    private static final Map<String, String> SECTIONS = sections();
    private static final Map<String, List<String>> QUOTES = new LinkedHashMap<>();

    private Sentence() {
    }

    static void holds(String heading, String words, Runnable test) {
        Check.under("\"" + words + "\" (" + heading + ")");
        QUOTES.computeIfAbsent(heading, any -> new ArrayList<>()).add(words);
        if (!SECTIONS.isEmpty() && !SECTIONS.getOrDefault(heading, "").contains(words)) {
            Check.fails("the document does not say this");
        }
        try {
            test.run();
        } catch (RuntimeException | Error e) {
            Check.fails("the test ends with " + e + " at " + e.getStackTrace()[0]);
        }
    }

    /** Each word of the terms and of the promises must be in the quote of a test. */
    static void allAreTested() {
        for (String heading : SECTIONS.keySet()) {
            if (heading.equals("Terms") || heading.startsWith("Promise ")) {
                Check.under("\"" + heading + "\"");
                String rest = withoutQuotes(heading);
                if (rest.chars().anyMatch(Character::isLetterOrDigit)) {
                    Check.fails("no test is for: " + rest.trim());
                }
            }
        }
    }

    private static String withoutQuotes(String heading) {
        String text = SECTIONS.get(heading);
        boolean[] quoted = new boolean[text.length()];
        for (String words : QUOTES.getOrDefault(heading, List.of())) {
            for (int at = text.indexOf(words); at >= 0; at = text.indexOf(words, at + 1)) {
                for (int i = 0; i < words.length(); i++) {
                    quoted[at + i] = true;
                }
            }
        }
        StringBuilder rest = new StringBuilder();
        for (int i = 0; i < quoted.length; i++) {
            if (!quoted[i]) {
                rest.append(text.charAt(i));
            }
        }
        return rest.toString();
    }

    /** The document's text by heading, without signatures and fences, with single blanks. */
    private static Map<String, String> sections() {
        Map<String, String> found = new LinkedHashMap<>();
        if (!Files.isReadable(DOCUMENT)) {
            System.out.println("the document is not at " + DOCUMENT + ": quotes are not looked up in it");
            return found;
        }
        String heading = "";
        for (String line : lines()) {
            if (line.startsWith("## ")) {
                heading = line.substring(3).trim();
            } else if (!line.startsWith("```")) {
                String plain = line.replaceAll("`[^`]*`:?", " ");
                found.merge(heading, plain, (before, more) -> (before + " " + more).replaceAll("\\s+", " "));
            }
        }
        return found;
    }

    private static List<String> lines() {
        try {
            return Files.readAllLines(DOCUMENT);
        } catch (IOException e) {
            throw new IllegalStateException(e);
        }
    }
}
