import java.io.IOException;
import java.nio.file.Files;
import java.nio.file.Path;
import java.util.ArrayList;
import java.util.List;

/** README.md: what stands below its headings, and its code. */
final class Readme {
    static final String EXAMPLE = "## An example", PUT = "### `int put(long characters)`";

    private Readme() {
    }

    static List<String> lines() {
        try {
            return Files.readAllLines(Path.of("README.md"));
        } catch (IOException missing) {
            throw new IllegalStateException("README.md can't be read", missing);
        }
    }

    /** The lines between a heading and the next one of any depth; none if there is no such heading. */
    static List<String> below(List<String> lines, String heading) {
        int from = lines.indexOf(heading) + 1;
        int to = from;
        while (from > 0 && to < lines.size() && !lines.get(to).matches("#+ .*")) {
            to++;
        }
        return lines.subList(from, to);
    }

    /** The lines that stand between "```java" and "```". */
    static List<String> code(List<String> lines) {
        List<String> code = new ArrayList<>();
        boolean isCode = false;
        for (String line : lines) {
            if (line.startsWith("```")) {
                isCode = line.equals("```java");
            } else if (isCode) {
                code.add(line);
            }
        }
        return code;
    }
}
