import java.io.IOException;
import java.nio.file.Files;
import java.nio.file.Path;
import java.util.ArrayList;
import java.util.LinkedHashMap;
import java.util.List;
import java.util.Map;

/**
 * The document's sentences, word for word, each with stories that fail if it is broken: the class
 * and the Reference answer a story as due, and a Reference in which that sentence alone is broken
 * does not. What is quoted of a section must be the whole of it, so no sentence is passed over.
 */
final class Sentences {
    private static final Path DOCUMENT = Path.of("../shared/DOC.md");

    private final Edges edges = new Edges();
    private final Map<String, String> document = sectionsOf(DOCUMENT);
    private final List<String> done = new ArrayList<>();
    private final StringBuilder quoted = new StringBuilder();
    private String section = "";
    private String sentence = "";
    private int stories;
    private int sentences;

    /** The next section, by its heading. */
    void section(String heading) {
        endSection();
        section = heading;
        done.add(heading);
    }

    /** The next part of the section that can be broken on its own; stories follow. */
    void sentence(String quote) {
        endSentence();
        sentence = quote;
        stories = 0;
        sentences++;
        quote(quote);
    }

    /** What only sums up other sentences, or says nothing of an answer. */
    void noAnswer(String quote) {
        endSentence();
        sentence = "";
        quote(quote);
    }

    /** A story that holds, but would not if the sentence were broken in this way. */
    void broken(Reference how, String... story) {
        stories++;
        String title = section + ", \"" + sentence + "\", story " + stories;
        edges.edge(title, story);
        edges.due(title + " holds though the sentence is broken", Edges.holdsFor(how, story) ? 1 : 0, 0);
    }

    /** Every section whose heading begins so must have been gone through. */
    void end(String... headings) {
        endSection();
        for (String heading : document.keySet()) {
            for (String beginning : headings) {
                boolean asked = heading.startsWith(beginning);
                edges.due(heading + " was gone through", !asked || done.contains(heading) ? 1 : 0, 1);
            }
        }
        System.out.println(sentences + " sentences");
        edges.end();
    }

    private void quote(String quote) {
        quoted.append(quoted.length() == 0 ? "" : " ").append(quote);
    }

    private void endSentence() {
        if (!sentence.isEmpty()) {
            edges.due(section + ", \"" + sentence + "\" has a story", stories > 0 ? 1 : 0, 1);
        }
    }

    private void endSection() {
        endSentence();
        sentence = "";
        if (!section.isEmpty()) {
            String due = document.getOrDefault(section, "there is no such section");
            edges.due(section + " is quoted whole:\n" + quoted + "\nthe document:\n" + due + "\n",
                due.equals(quoted.toString()) ? 1 : 0, 1);
        }
        quoted.setLength(0);
    }

    /** Texts by headings; line breaks, and the marks around texts, are not of the text. */
    private static Map<String, String> sectionsOf(Path path) {
        Map<String, String> sections = new LinkedHashMap<>();
        for (String part : textOf(path).split("(?m)^## ")) {
            int end = part.indexOf('\n');
            String text = part.substring(end + 1).replaceAll("(?m)^```.*$", " ");
            sections.put(part.substring(0, end).trim(), text.trim().replaceAll("\\s+", " "));
        }
        return sections;
    }

    private static String textOf(Path path) {
        try {
            return Files.readString(path);
        } catch (IOException e) {
            throw new IllegalStateException("the document is not there: " + path, e);
        }
    }
}
