import java.io.IOException;
import java.nio.file.Files;
import java.nio.file.Path;
import java.util.ArrayList;
import java.util.LinkedHashMap;
import java.util.List;
import java.util.Map;

/** The document's parts, each under its heading, and their sentences. */
final class Document {
    private final Map<String, String> parts = new LinkedHashMap<>();

    Document() {
        StringBuilder text = new StringBuilder();
        String heading = "";
        for (String line : lines()) {
            if (line.startsWith("#")) {
                parts.put(heading, text.toString().trim());
                heading = line.replaceFirst("^#+ ", "");
                text.setLength(0);
            } else {
                text.append(line).append('\n');
            }
        }
        parts.put(heading, text.toString().trim());
    }

    private static List<String> lines() {
        try {
            return Files.readAllLines(Path.of("../shared/DOC.md"));
        } catch (IOException missing) {
            throw new IllegalStateException("../shared/DOC.md can't be read", missing);
        }
    }

    List<String> headings() {
        return new ArrayList<>(parts.keySet());
    }

    String part(String heading) {
        return parts.getOrDefault(heading, "");
    }

    /**
     * The sentences of a part, as places in its text: {from, to}. What stands between ";" or ":" is one, too,
     * and each numbered thing in a list of such.
     */
    List<int[]> sentences(String heading) {
        String text = part(heading);
        List<int[]> sentences = new ArrayList<>();
        int from = 0;
        for (int at = 0; at <= text.length(); at++) {
            if (isEnd(text, at)) {
                if (!text.substring(from, at).isBlank()) {
                    sentences.add(new int[] {from, at});
                }
                from = at + 1;
            }
        }
        return sentences;
    }

    private static boolean isEnd(String text, int at) {
        if (at == text.length() || text.charAt(at) == '\n') {
            return true;
        }
        String behind = text.substring(at + 1);
        return ".;:".indexOf(text.charAt(at)) >= 0 && !behind.isEmpty() && behind.charAt(0) <= ' '
            || text.charAt(at) == ',' && behind.length() > 1 && Character.isDigit(behind.charAt(1));
    }
}
