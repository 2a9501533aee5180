import java.io.IOException;
import java.nio.file.Files;
import java.nio.file.Path;
import java.util.List;
import java.util.regex.Matcher;
import java.util.regex.Pattern;

/**
 * Makes a Java program, ReadmeCalls, of the code of README.md: it makes the calls of the example as they stand
 * there, and compares each answer with the one that stands behind the call. Where a text stands there in quotes,
 * it compares what is put with the number that the page's own way of making one gives for this text.
 */
public final class ReadmeExample {
    private static final String NEW = "RunningHeads x = new RunningHeads();";
    private static final Pattern CALL = Pattern.compile("(x\\.\\w+\\([^;\"\\\\]*\\)); *// (-?\\d+): .+");
    private static final Pattern PUT = Pattern.compile("x\\.put\\((\\w+)\\); *// -?\\d+: \"([^\"\\\\]+)\"");

    private ReadmeExample() {
    }

    /** The argument is the file that the program is written to. */
    public static void main(String[] args) throws IOException {
        Files.writeString(Path.of(args[0]), program(Readme.lines()));
    }

    static String program(List<String> readme) {
        StringBuilder program = new StringBuilder("""
            public final class ReadmeCalls {
                private static int passed = 0, failed = 0;

                private static void due(String call, long got, long want) {
                    if (got == want) {
                        passed++;
                    } else {
                        failed++;
                        System.out.println(call + " answered " + got + ", README.md tells " + want);
                    }
                }

            """);
        addLines(program, Readme.code(Readme.below(readme, Readme.PUT)));
        program.append("\n    public static void main(String[] args) {\n");
        addCalls(program, Readme.code(Readme.below(readme, Readme.EXAMPLE)));
        program.append("""
                    System.out.println(passed + " passed, " + failed + " failed");
                    System.exit(failed == 0 ? 0 : 1);
                }
            }
            """);
        return program.toString();
    }

    private static void addLines(StringBuilder program, List<String> lines) {
        for (String line : lines) {
            program.append("    ").append(line).append('\n');
        }
    }

    private static void addCalls(StringBuilder program, List<String> example) {
        int calls = 0;
        for (String line : example) {
            Matcher call = CALL.matcher(line);
            if (call.matches()) {
                addDue(program, call.group(1), call.group(1), call.group(2) + "L");
                addPacked(program, line);
                calls++;
            } else if (line.equals(NEW)) {
                program.append("        ").append(line).append('\n');
            } else if (!line.isEmpty() && !line.startsWith("//")) {
                throw new IllegalArgumentException("this line of the example is no call with its answer: " + line);
            }
        }
        if (calls == 0) {
            throw new IllegalArgumentException("there is no example with calls under " + Readme.EXAMPLE);
        }
    }

    private static void addPacked(StringBuilder program, String line) {
        Matcher put = PUT.matcher(line);
        if (put.matches()) {
            addDue(program, "packed of " + put.group(2), "packed(\"" + put.group(2) + "\")", put.group(1));
        }
    }

    private static void addDue(StringBuilder program, String name, String got, String want) {
        program.append("        due(\"").append(name).append("\", ").append(got).append(", ").append(want)
            .append(");\n");
    }
}
