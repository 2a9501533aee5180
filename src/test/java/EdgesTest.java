import java.util.List;

/**
 * All tests of single sentences; and a look whether each sentence of the document has one. With any argument
 * the name of each test is told: its part of the document, the sentence that it is for, and what it tries.
 */
public final class EdgesTest {
    // Of "What it is" only the 512 calls are a boundary, and EdgesConventions tests them; FaceTest is for the
    // face; what is not promised needs no test.
    private static final List<String> OTHER_PARTS = List.of("What it is", "The public face", "Not promised");

    // What these say has no boundary of its own; the sentences beside them, which have, are tested.
    private static final List<String> OTHER_SENTENCES = List.of(
        "CONVENTIONS", "(In parentheses", "range", "1", "2", "3", "4", "5",
        "To lay an entry of n lines, let r be the room that is left on the page of now",
        "Heads hang on pages, and pages on heads", "so there are passes",
        "The constants", "Error codes, and NONE", "there is none",
        "Ahead of the calls `set`, `read`, `change`, `drop`, `join`, `rename` the interface says", "---- changes",
        "Ahead of the calls `undo`, `save`, `restore` the interface says", "---- undo, saving.",
        "Returns something about an entry", "Returns something about a page", "Returns a number",
        "Returns the number", "Returns the entry", "Returns the page",
        "- `what`", "- `characters`", "They are given as a number");

    public static void main(String[] args) {
        if (args.length > 0) {
            Edges.tellNames();
        }
        EdgesConventions.all();
        EdgesSettings.all();
        EdgesEntries.all();
        EdgesPages.all();
        EdgesHeads.all();
        EdgesFolds.all();
        EdgesTexts.all();
        Edges01To07.all();
        Edges08To13.all();
        Edges14To16.all();
        Edges17To22.all();
        Edges.everySentenceHasATest(OTHER_PARTS, OTHER_SENTENCES);
        Edges.end();
    }
}
