import java.io.IOException;
import java.nio.file.Files;
import java.nio.file.Path;
import java.util.ArrayList;
import java.util.List;
import java.util.Set;
import java.util.TreeSet;

/** The document's sections, sentence by sentence; a test that tells its sentence is held to the document's own words. */
final class Document {
    static final int TERMS = 0;
    static final int PROMISES = 42;
    static final int HEAD = PROMISES + 1;
    private static final Path FILE = Path.of("../shared/DOC.md");

    private final String[] sections = new String[PROMISES + 2];
    private final List<Set<String>> told = new ArrayList<>();
    private String now = "";

    Document() throws IOException {
        String text = Files.readString(FILE);
        sections[HEAD] = between(text, "## What it is\n", "## The public face\n");
        sections[TERMS] = between(text, "## Terms\n", "## Promise 1:");
        for (int promise = 1; promise <= PROMISES; promise++) {
            String end = promise < PROMISES ? "## Promise " + (promise + 1) + ":" : "## Not promised";
            sections[promise] = between(text, "## Promise " + promise + ":", end);
        }
        for (int i = 0; i < sections.length; i++) {
            told.add(new TreeSet<>());
        }
    }

    private static String between(String text, String from, String to) {
        int at = text.indexOf(from);
        int end = text.indexOf(to);
        return at < 0 || end < at ? "" : text.substring(at, end);
    }

    /** What comes next tests this sentence of a promise (or of the terms, or of what stands ahead of the face). */
    void says(int promise, String sentence) {
        String section = promise == TERMS ? "terms" : promise == HEAD ? "head" : "promise " + promise;
        now = section + ", \"" + sentence + "\"";
        told.get(promise).add(sentence);
        Check.due(now + " stands in the document", true, () -> sections[promise].contains(sentence));
    }

    void due(String what, Object want, Check.Call call) {
        Check.due(now + ": " + what, want, call);
    }

    /** Each promise has to have a sentence that is tested; each exception that a promise names, too. */
    void needAllPromises() {
        for (int promise = 1; promise <= PROMISES; promise++) {
            int p = promise;
            Check.due("promise " + p + " has a sentence that is tested", true, () -> !told.get(p).isEmpty());
            for (String kind : List.of("NoSuchElementException:", "IllegalArgumentException:", "IllegalStateException:")) {
                boolean named = sections[p].contains(kind);
                boolean tested = told.get(p).stream().anyMatch(sentence -> sentence.contains(kind));
                Check.due("promise " + p + " has its " + kind + " tested", named, () -> tested);
            }
        }
    }
}
