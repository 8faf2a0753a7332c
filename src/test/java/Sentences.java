import java.io.IOException;
import java.nio.file.Files;
import java.nio.file.Path;
import java.util.ArrayList;
import java.util.LinkedHashMap;
import java.util.List;
import java.util.Map;

/**
 * Runs the tests of the document's sentences. Each test quotes the sentence that it is for; a quote that the document
 * has not, and a sentence that no test quotes, are faults.
 */
final class Sentences {
    static final String TERMS = "Terms";

    private static final Path DOCUMENT = Path.of("..", "shared", "DOC.md");

    private final Map<String, List<String>> quoted = new LinkedHashMap<>();

    void hold(String section, String quote, Runnable test) {
        quoted.computeIfAbsent(section, none -> new ArrayList<>()).add(quote);
        Due.about(section + ", \"" + quote + "\": ");
        try {
            test.run();
        } catch (RuntimeException | StackOverflowError e) {
            Due.report("threw " + e);
        }
        Due.about("");
    }

    void hold(int promise, String quote, Runnable test) {
        hold("Promise " + promise, quote, test);
    }

    void compareWithDocument() {
        if (!Files.isReadable(DOCUMENT)) {
            System.out.println("The sentences are not compared with the document: it is not at " + DOCUMENT);
            return;
        }
        Map<String, List<String>> written = sentencesOfDocument();
        for (String section : quoted.keySet()) {
            for (String quote : quoted.get(section)) {
                if (!anyHolds(written.getOrDefault(section, List.of()), quote)) {
                    Due.report("the document does not say in " + section + ": " + quote);
                }
            }
        }
        for (String section : written.keySet()) {
            for (String sentence : written.get(section)) {
                if (!anyStandsIn(sentence, quoted.getOrDefault(section, List.of()))) {
                    Due.report("no test is for the sentence in " + section + ": " + sentence);
                }
            }
        }
        System.out.println(written.values().stream().mapToInt(List::size).sum() + " sentences, "
            + quoted.values().stream().mapToInt(List::size).sum() + " tests of them");
    }

    private static boolean anyHolds(List<String> sentences, String quote) {
        return sentences.stream().anyMatch(sentence -> sentence.contains(quote));
    }

    private static boolean anyStandsIn(String sentence, List<String> quotes) {
        return quotes.stream().anyMatch(sentence::contains);
    }

    private static Map<String, List<String>> sentencesOfDocument() {
        Map<String, List<String>> sentences = new LinkedHashMap<>();
        String section = "";
        for (String line : linesOfDocument()) {
            if (line.startsWith("## ")) {
                section = sectionOf(line.substring(3));
            } else if (!section.isEmpty() && saysSomething(section, line)) {
                List<String> ofSection = sentences.computeIfAbsent(section, none -> new ArrayList<>());
                for (String sentence : withoutSignature(line).split("(?<=[.;]) ")) {
                    ofSection.add(sentence);
                }
            }
        }
        return sentences;
    }

    private static List<String> linesOfDocument() {
        try {
            return Files.readAllLines(DOCUMENT);
        } catch (IOException e) {
            Due.report("the document cannot be read: " + e);
            return List.of();
        }
    }

    /** "Terms", "Promise 1" and so on; nothing for the sections that promise nothing. */
    private static String sectionOf(String title) {
        if (title.equals(TERMS)) {
            return TERMS;
        }
        return title.startsWith("Promise ") ? title.substring(0, title.indexOf(':')) : "";
    }

    /** In the terms a line without a full stop is a title, and some lines tell of the interface's comments alone. */
    private static boolean saysSomething(String section, String line) {
        if (line.isBlank() || line.startsWith("#")) {
            return false;
        }
        return !section.equals(TERMS) || line.endsWith(".") && !line.startsWith("Ahead of the calls");
    }

    private static String withoutSignature(String line) {
        return line.startsWith("`") ? line.substring(line.indexOf("`: ") + 3) : line;
    }
}
