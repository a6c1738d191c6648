import java.io.IOException;
import java.nio.file.Files;
import java.nio.file.Path;
import java.util.ArrayList;
import java.util.LinkedHashMap;
import java.util.List;
import java.util.Map;
import java.util.Set;

/** Compares the sentences that the tests hold with the document: it has each of them, and none of its own is left out. */
final class Sentences {
    private static final Path DOCUMENT = Path.of("../shared/DOC.md");

    // What tells just what a section is about: the sentences behind it name the edges.
    private static final Set<String> WITHOUT_EDGE = Set.of(
        "It tells what the segments can be, how many readings there are, where a ring begins if nobody knows it, "
            + "when walkers meet and have seen all, which place should be a divider.",
        "Changes can be undone.",
        "Appends a character to the text buffer.",
        "Checks the text.",
        "Returns a number.",
        "Returns what stands at a place.",
        "Returns a letter of a word of the book.",
        "Counts segments.",
        "Returns a number of a segment.",
        "Returns a number of a walker.",
        "Carves a sign at a place.",
        "Puts a place with a sign into the ring.",
        "Tells when two walkers meet.",
        "Tells when a walker has seen all.",
        "Tells what a worn place would change.",
        "Finds the place that should be a divider.",
        "Finds the direction to read in.",
        "Tells what a worn place can have been.",
        "Ahead of the calls `append`, `clearText`, `errorPosition` the interface says: ---- text.",
        "Ahead of the calls `about`, `at`, `letter`, `reading`, `segment`, `find`, `walker` the interface says: ---- what there is.",
        "Ahead of the calls `ring`, `addWord`, `removeWord`, `carve`, `wear`, `insert`, `erase`, `addWalker`, `turn`, `go`, `undo` "
            + "the interface says: ---- actions.",
        "Ahead of the calls `runScript`, `simulate` the interface says: ---- scripts, simulations.",
        "Ahead of the calls `save`, `restore` the interface says: ---- save slots.");

    private Sentences() {
    }

    static void compare() throws IOException {
        if (!Files.exists(DOCUMENT)) {
            System.out.println("There is no " + DOCUMENT + " to compare the tests with.");
            return;
        }
        Map<String, String> sections = sections(Files.readString(DOCUMENT));
        List<String[]> held = List.copyOf(Check.sentences());
        for (String[] sentence : held) {
            Check.sentence(sentence[0], sentence[1]);
            boolean stands = inOneLine(sections.getOrDefault(sentence[0], "")).contains(sentence[1]);
            Check.due("the document's having this", stands ? 1 : 0, 1);
        }
        for (Map.Entry<String, String> section : sections.entrySet()) {
            if (section.getKey().equals("Terms") || section.getKey().startsWith("Promise ")) {
                allHeld(section.getKey(), section.getValue(), held);
            }
        }
    }

    private static Map<String, String> sections(String document) {
        Map<String, String> all = new LinkedHashMap<>();
        for (String section : document.split("(?m)^## ")) {
            String[] parts = section.split("\n", 2);
            all.put(parts[0].replaceAll(":.*", "").strip(), parts.length > 1 ? parts[1] : "");
        }
        return all;
    }

    private static void allHeld(String section, String text, List<String[]> held) {
        for (String piece : pieces(text)) {
            Check.sentence(section, piece);
            boolean is = WITHOUT_EDGE.contains(piece);
            for (String[] sentence : held) {
                is |= sentence[0].equals(section) && (piece.contains(sentence[1]) || sentence[1].contains(piece));
            }
            Check.due("the tests of this sentence", is ? "some" : "none", "some");
        }
    }

    /** The sentences, and what is said of each argument that has a range. */
    private static List<String> pieces(String text) {
        String prose = text.replaceAll("(?m)^[A-Z ]+$", "").replaceAll("(?m)^- ", "\n").replaceAll("(?m)^`[^`]*\\([^`]*`: ", "");
        List<String> all = new ArrayList<>();
        for (String paragraph : prose.split("\n\\s*\n|\n(?=`)")) {
            for (String piece : inOneLine(paragraph).split("(?<=\\.) ")) {
                boolean argument = piece.startsWith("`");
                if (!piece.isEmpty() && (!argument || piece.matches(".*[0-9].*"))) {
                    all.add(piece);
                }
            }
        }
        return all;
    }

    private static String inOneLine(String text) {
        return text.replaceAll("\\s+", " ").strip();
    }
}
