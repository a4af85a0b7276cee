import java.io.IOException;
import java.nio.file.Files;
import java.nio.file.Path;
import java.util.ArrayList;
import java.util.LinkedHashMap;
import java.util.List;
import java.util.Map;
import java.util.TreeMap;

/** The sentences of ../shared/DOC.md by section, and which of them have a case; run from the project's directory. */
final class Document {
    private static final Path FILE = Path.of("../shared/DOC.md");
    private static final String[] PIECES = {"==== 2.", "==== 3.", "==== 4."};

    /** Section ("Terms", "==== 2." .. "==== 4.", "Promise 1" ..), then its sentences with the number of their cases. */
    private final Map<String, Map<String, Integer>> sections = new TreeMap<>();
    private final Check check;

    Document(Check check) throws IOException {
        this.check = check;
        if (!Files.isReadable(FILE)) {
            System.out.println("no document at " + FILE + ": its words are not compared");
            return;
        }
        String all = Files.readString(FILE).replace("```text", "").replace("```", "").replaceAll("[ \n]+", " ");
        for (String part : all.split("(?=## )|(?===== [0-9]\\.)")) {
            keep(part);
        }
    }

    private void keep(String part) {
        for (String piece : PIECES) {
            if (part.startsWith(piece)) {
                sections.put(piece, sentences(part.substring(piece.length())));
            }
        }
        if (part.startsWith("## Terms ")) {
            sections.put("Terms", sentences(part.substring("## Terms ".length())));
        }
        if (part.startsWith("## Promise ")) {
            int colon = part.indexOf(':');
            sections.put(part.substring(3, colon), sentences(part.substring(part.indexOf("`: ") + 3)));
        }
    }

    /** A sentence ends with a full stop that is not one of two ("0 .. 7"), before a blank or a bracket. */
    private static Map<String, Integer> sentences(String text) {
        Map<String, Integer> found = new LinkedHashMap<>();
        for (String sentence : text.trim().split("(?<=[^. ]\\.)\\)? +")) {
            found.put(sentence.trim(), 0);
        }
        return found;
    }

    /** The next answers are what these words ask for; they must stand in one sentence of the section. */
    void says(String section, String words) {
        check.about(section + " \"" + words + "\"");
        if (sections.isEmpty()) {
            return;
        }
        boolean there = false;
        for (Map.Entry<String, Integer> sentence : sections.getOrDefault(section, new TreeMap<>()).entrySet()) {
            if (sentence.getKey().contains(words)) {
                sentence.setValue(sentence.getValue() + 1);
                there = true;
            }
        }
        if (!there) {
            check.fault("the document does not say this");
        }
    }

    void says(int promise, String words) {
        says("Promise " + promise, words);
    }

    /** Every sentence must have had a case. */
    void allSaid() {
        List<String> missed = new ArrayList<>();
        int cases = 0;
        for (Map.Entry<String, Map<String, Integer>> section : sections.entrySet()) {
            for (Map.Entry<String, Integer> sentence : section.getValue().entrySet()) {
                cases += sentence.getValue();
                if (sentence.getValue() == 0) {
                    missed.add(section.getKey() + " \"" + sentence.getKey() + "\"");
                }
            }
        }
        check.about("the document");
        for (String one : missed) {
            check.fault("no case for " + one);
        }
        System.out.println(cases + " cases for the sentences of " + sections.size() + " sections");
    }
}
