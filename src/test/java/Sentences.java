import java.io.IOException;
import java.nio.charset.StandardCharsets;
import java.nio.file.Files;
import java.nio.file.Path;
import java.util.BitSet;
import java.util.Map;
import java.util.TreeMap;

/**
 * The document's sentences, each with the test that holds it. A sentence must stand in the section that
 * it is quoted from, and at the end every word of the sections must have been quoted.
 */
final class Sentences {
    interface Test {
        void run();
    }

    private static final Path DOCUMENT = Path.of("../shared/DOC.md");
    private static final String BEGINNING = "What it is";
    private static final int PROMISES = 27;

    private final Map<String, String> sections = new TreeMap<>();
    private final Map<String, BitSet> quoted = new TreeMap<>();

    Sentences() {
        String document = "";
        try {
            document = Files.readString(DOCUMENT, StandardCharsets.ISO_8859_1);
        } catch (IOException e) {
            System.out.println("there is no document to hold the quotes against");
        }
        for (String section : document.split("(?m)^## ")) {
            String title = section.split("\n", 2)[0];
            if (title.equals("Terms") || title.equals(BEGINNING) || title.startsWith("Promise ")) {
                keep(title.split(":")[0], section.substring(title.length()));
            }
        }
    }

    /** A section without what is no sentence: marks of code blocks, headings, signatures. */
    private void keep(String name, String text) {
        String words = text.replaceAll("```(text)?", " ").replaceAll("(?m)^`[^`]*\\)[^`]*`:", " ");
        sections.put(name, plain(words));
        quoted.put(name, new BitSet());
    }

    private static String plain(String text) {
        return text.replaceAll("\\s+", " ").trim();
    }

    /** Of "## What it is", which need not be quoted whole. */
    void beginning(String sentence, Test test) {
        hold(BEGINNING, sentence, test);
    }

    /** Of "## Terms" and the texts in it. */
    void terms(String sentence, Test test) {
        hold("Terms", sentence, test);
    }

    void promise(int number, String sentence, Test test) {
        hold("Promise " + number, sentence, test);
    }

    private void hold(String name, String sentence, Test test) {
        Check.about(name + ", \"" + sentence + "\"");
        String section = sections.get(name);
        if (section != null) {
            int at = section.indexOf(sentence);
            Check.due("stands in the document", true, at >= 0);
            quoted.get(name).set(Math.max(at, 0), Math.max(at, 0) + sentence.length());
        }
        test.run();
        Check.about("");
    }

    void everyWordWasQuoted() {
        Check.due("sections found", true, sections.isEmpty() || sections.size() == PROMISES + 2);
        sections.remove(BEGINNING);
        sections.forEach((name, section) -> {
            BitSet told = quoted.get(name);
            for (int from = told.nextClearBit(0); from < section.length(); from = told.nextClearBit(from)) {
                int next = told.nextSetBit(from);
                int to = next < 0 ? section.length() : next;
                String rest = section.substring(from, to);
                Check.due(name + " has no test for \"" + rest + "\"", false, rest.matches(".*\\w.*"));
                from = to;
            }
        });
    }
}
