import java.lang.reflect.Field;
import java.lang.reflect.Modifier;
import java.util.ArrayList;
import java.util.List;
import java.util.regex.Matcher;
import java.util.regex.Pattern;

/**
 * README.md tells of each constant and each method what the document does, as far as names, numbers and their order
 * show it. Its example is run by .ci/run; here is only what an example has to be like.
 */
public final class ReadmeTest {
    private static final Pattern CODE =
        Pattern.compile("\\b(NO_SUCH|BAD_VALUE|BAD_TEXT|TOO_MANY|NOT_POSSIBLE|NONE)\\b");
    private static final Pattern FACE = Pattern.compile("`(int (\\w+)\\((.*?)\\))`");

    private static final List<String> README = Readme.lines();
    private static final List<String> EXAMPLE = Readme.code(Readme.below(README, Readme.EXAMPLE));

    public static void main(String[] args) throws IllegalAccessException {
        Document document = new Document();
        int methods = 0;
        for (String heading : document.headings()) {
            Matcher face = FACE.matcher(document.part(heading));
            if (heading.startsWith("Promise ") && face.lookingAt()) {
                methods++;
                method(face, document.part(heading));
            }
        }
        Check.due("methods", methods, 21);
        constants();
        settings();
        making();
        rows("entry", 7);
        rows("page", 8);
        rows("count", 15);
        allCodeIsRun();
        refused();
        Check.end();
    }

    private static List<String> section(String method) {
        for (String line : README) {
            if (line.startsWith("### `int " + method + "(")) {
                return Readme.below(README, line);
            }
        }
        return List.of();
    }

    private static void method(Matcher face, String promise) {
        String name = face.group(2);
        Check.holds("README.md has the heading " + face.group(1), README.contains("### `" + face.group(1) + "`"));
        List<String> section = section(name);
        for (String argument : face.group(3).isEmpty() ? new String[0] : face.group(3).split(", ")) {
            String begin = "- `" + argument.split(" ")[1] + "`: ";
            Check.holds("under " + name + " stands " + begin, has(section, begin));
        }
        Check.holds("under " + name + " stands an answer", has(section, "- Answer: "));
        Check.holds("under " + name + " stand errors", has(section, "- Errors: "));
        Check.text("codes of " + name, codes(String.join("\n", section)).toString(), codes(promise).toString());
        Check.holds("README.md and the document agree whether " + name + " is a change",
            isChange(section) == promise.contains("This is a change."));
        Check.holds("the example calls " + name, has(EXAMPLE, "x." + name + "("));
    }

    private static boolean has(List<String> lines, String begin) {
        return lines.stream().anyMatch(line -> line.startsWith(begin));
    }

    private static boolean isChange(List<String> section) {
        return String.join(" ", section).contains("This is a change");
    }

    /** The errors, and NONE, each once and in the order in which they are named first. */
    private static List<String> codes(String text) {
        List<String> codes = new ArrayList<>();
        Matcher code = CODE.matcher(text);
        while (code.find()) {
            if (!codes.contains(code.group())) {
                codes.add(code.group());
            }
        }
        return codes;
    }

    private static void constants() throws IllegalAccessException {
        for (Field field : RunningHeads.class.getDeclaredFields()) {
            if (Modifier.isPublic(field.getModifiers())) {
                String row = "| `" + field.getName() + "` | " + field.getInt(null) + " | ";
                Check.holds("README.md has the row " + row, has(README, row));
            }
        }
    }

    private static void settings() {
        String[] rows = {"| `LINES` | 0 | 6 to 40 | 12 | ", "| `WIDTH` | 1 | 4 to 30 | 12 | ",
            "| `KEEP` | 2 | 1 to 3 | 2 | "};
        for (String row : rows) {
            Check.holds("README.md has the row " + row, has(README, row));
        }
    }

    private static void making() {
        Check.holds("README.md tells how an object is made",
            has(Readme.below(README, "## Making an object"), "`RunningHeads x = new RunningHeads();`"));
    }

    /** The table under a method has a row for each what, from 0 on. */
    private static void rows(String method, int due) {
        int what = 0;
        for (String line : section(method)) {
            if (line.matches("\\| \\d.*")) {
                Check.holds("row " + what + " under " + method + " is " + what + ": " + line,
                    line.matches("\\| " + what + "( and more)? \\| .+"));
                what++;
            }
        }
        Check.due("rows under " + method, what, due);
    }

    private static void allCodeIsRun() {
        int run = EXAMPLE.size() + Readme.code(Readme.below(README, Readme.PUT)).size();
        Check.due("lines of code that are run", run, Readme.code(README).size());
        String program = ReadmeExample.program(README);
        for (String line : EXAMPLE) {
            if (line.startsWith("x.")) {
                String call = line.substring(0, line.indexOf(';'));
                String answer = line.replaceFirst(".*?// ", "").replaceFirst(":.*", "");
                String due = "due(\"" + call + "\", " + call + ", " + answer + "L);\n";
                Check.holds("the program has " + due, program.contains(due));
            }
        }
    }

    private static void refused() {
        String first = "RunningHeads x = new RunningHeads();";
        String good = "x.count(3); // 0: entries";
        Check.holds("an example with a call is taken", !isRefused(first, good));
        String[] bad = {"x.count(3);", "x.count(3); // entries", "x.count(3); // 0", "x.count(3) // 0: entries",
            "int n = x.count(3); // 0: entries", "y.count(3); // 0: entries", "x.count(3); x.count(4); // 0: pages"};
        for (String line : bad) {
            Check.holds("this line is refused: " + line, isRefused(first, good, line));
        }
        Check.holds("an example without calls is refused", isRefused(first));
        Check.holds("a page without an example is refused", isProgramRefused(List.of("# A page")));
    }

    private static boolean isRefused(String... example) {
        List<String> page = new ArrayList<>(List.of(Readme.EXAMPLE, "```java"));
        page.addAll(List.of(example));
        page.add("```");
        return isProgramRefused(page);
    }

    private static boolean isProgramRefused(List<String> page) {
        try {
            ReadmeExample.program(page);
            return false;
        } catch (IllegalArgumentException refused) {
            return true;
        }
    }
}
