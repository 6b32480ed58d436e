import java.io.IOException;
import java.nio.file.Files;
import java.nio.file.Path;
import java.util.Map;
import java.util.Set;
import java.util.TreeMap;
import java.util.TreeSet;

/** Every sentence of the document that says how the class behaves has looks of its own. */
public final class SentenceTest {
    private static final Path DOCUMENT = Path.of("../shared/DOC.md");
    // These say how the state is held, which is free, and what stands ahead of which calls in the interface.
    private static final Set<String> NOT_LOOKED_AT = Set.of("Houses with bookings", "Ahead of the calls", "Exceptions");

    public static void main(String[] args) throws IOException {
        Check check = new Check();
        new TermEdges(check).all();
        new RefusalEdges(check).all();
        new BookEdges(check).all();
        new WaitEdges(check).all();
        new ComeEdges(check).all();
        new CrowdEdges(check).all();
        new SumEdges(check).all();
        if (Files.isReadable(DOCUMENT)) {
            eachSentenceHasLooks(check, sentences(Files.readString(DOCUMENT)));
        } else {
            System.out.println("the document is not here: its sentences are not compared");
        }
        check.end();
    }

    private static void eachSentenceHasLooks(Check check, Set<String> sentences) {
        Map<String, Integer> looks = new TreeMap<>(check.looks());
        check.sentence("The tests and the document");
        check.yes("that the document was found in sentences", sentences.size() > 150);
        for (String sentence : sentences) {
            check.yes("a look at: " + sentence, looks.getOrDefault(sentence, 0) > 0);
        }
        for (String sentence : looks.keySet()) {
            check.yes("that the document says: " + sentence, sentences.contains(sentence));
        }
    }

    private static Set<String> sentences(String document) {
        Set<String> sentences = new TreeSet<>();
        for (String section : document.split("(?m)^## ")) {
            String title = section.substring(0, section.indexOf('\n'));
            if (title.startsWith("Promise ")) {
                addAll(sentences, title.substring(0, title.indexOf(':')) + ": ", section);
            } else if (title.equals("Terms") || title.equals("What it is")) {
                addAll(sentences, "", section);
            }
        }
        return sentences;
    }

    private static void addAll(Set<String> sentences, String promise, String section) {
        String body = section.substring(section.indexOf('\n'));
        for (String part : body.split("\n\n|\n(?=- )")) {
            String text = part.strip().replace('\n', ' ');
            // The signature stands ahead of what the call does, a hyphen ahead of a parameter.
            text = text.startsWith("- ") ? text.substring(2) : text.replaceFirst("^`[^`]*\\)[^`]*`: ", "");
            for (String sentence : text.replaceFirst("\\.$", "").split("\\. ")) {
                if (!sentence.isEmpty() && NOT_LOOKED_AT.stream().noneMatch(sentence::startsWith)) {
                    sentences.add(promise + sentence);
                }
            }
        }
    }
}
