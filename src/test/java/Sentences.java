import java.io.IOException;
import java.nio.file.Files;
import java.nio.file.Path;
import java.util.ArrayList;
import java.util.Arrays;
import java.util.LinkedHashMap;
import java.util.List;
import java.util.Map;

/**
 * Tests of single sentences of the document. Each is told with the sentence that it speaks of, word for word; behind all
 * of them the document is looked through: each quoted sentence must stand there, and none may be without a test.
 */
final class Sentences {
    /** One test: it makes games of its own and asks them. */
    interface Edge {
        void ask(Due due);
    }

    private static final Path DOCUMENT = Path.of("../shared/DOC.md");

    private final Map<String, List<String>> quotes = new LinkedHashMap<>();
    private final Due due;
    private int asked;
    private int tests;

    Sentences(Due itsDue) {
        due = itsDue;
    }

    void on(String section, String sentence, Edge... edges) {
        quotes.computeIfAbsent(section, none -> new ArrayList<>()).add(sentence);
        for (Edge edge : edges) {
            Due own = new Due(section + " [" + sentence + "]");
            edge.ask(own);
            tests++;
            asked += own.asked();
            due.is("wrong answers on " + section + " [" + sentence + "]", own.wrong(), 0);
            due.is("something is asked on " + section + " [" + sentence + "]", own.asked() > 0, true);
        }
        due.is("tests on " + section + " [" + sentence + "]", edges.length > 0, true);
    }

    void conclude() throws IOException {
        System.out.println("SentencesTest: " + tests + " tests of sentences, " + asked + " answers");
        if (!Files.isReadable(DOCUMENT)) {
            System.out.println("SentencesTest: " + DOCUMENT + " isn't there, so the sentences are not looked up in it");
            return;
        }
        Map<String, String> sections = sections(Files.readString(DOCUMENT));
        for (String section : quotes.keySet()) due.is("a section " + section, sections.containsKey(section), true);
        for (Map.Entry<String, String> section : sections.entrySet()) {
            lookThrough(section.getKey(), section.getValue(), quotes.getOrDefault(section.getKey(), List.of()));
        }
    }

    /** The sections that promise something, without blanks at line ends, marks of code and the calls' own lines. */
    private static Map<String, String> sections(String document) {
        Map<String, String> found = new LinkedHashMap<>();
        for (String part : document.split("(?m)^## ")) {
            String heading = part.split("[:\n]")[0].trim();
            if (!heading.equals("What it is") && !heading.equals("Terms") && !heading.startsWith("Promise ")) continue;
            String body = part.substring(part.indexOf('\n')).replaceAll("(?m)^```.*$", "").replaceAll("\\s+", " ").trim();
            if (heading.startsWith("Promise ")) body = body.replaceFirst("^`[^`]*`: ", "");
            found.put(heading, body);
        }
        return found;
    }

    private void lookThrough(String heading, String body, List<String> sentences) {
        boolean[] covered = new boolean[body.length()];
        for (String sentence : sentences) {
            int at = body.indexOf(sentence);
            due.is("in the document, once: " + heading + " [" + sentence + "]", at >= 0 && at == body.lastIndexOf(sentence), true);
            if (at >= 0) Arrays.fill(covered, at, at + sentence.length(), true);
        }
        StringBuilder left = new StringBuilder();
        for (int i = 0; i < body.length(); i++) left.append(covered[i] ? "" : body.substring(i, i + 1));
        // The introduction tells nothing that the others don't, but how often an object is called.
        if (heading.equals("What it is")) return;
        String told = left.toString().replaceAll("==== I[IV]*\\.", "").replaceAll("[\\s:;.]+", " ").trim();
        due.is("without a test: " + heading + " [" + told + "]", told.length(), 0);
    }
}
