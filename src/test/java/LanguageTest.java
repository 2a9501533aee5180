import java.io.IOException;
import java.nio.file.Files;
import java.nio.file.Path;
import java.util.regex.Matcher;
import java.util.regex.Pattern;

/** The rules of LANGUAGE.md that can be seen from single words and lines of the program. */
public final class LanguageTest {
    private static final String[] FORBIDDEN = {"throw", "throws", "try", "catch", "finally", "synchronized", "assert",
        "import", "package", "volatile", "transient", "native", "strictfp", "var", "Object", "Exception", "Error",
        "Thread", "hashCode", "protected", "yield"};

    public static void main(String[] args) throws IOException {
        String source = Files.readString(Path.of("src/main/java/RunningHeads.java"));
        signs(source);
        String code = source.replaceAll("(?s)/\\*.*?\\*/", "").replaceAll("//[^\n]*", "")
            .replaceAll("import java\\.util\\.(ArrayList|Arrays|Iterator|List);", "");
        words(code);
        lengths(source);
        Check.end();
    }

    private static void signs(String source) {
        for (int i = 0; i < source.length(); i++) {
            char sign = source.charAt(i);
            Check.holds("sign " + i + " is plain", sign == '\n' || sign >= 32 && sign < 127);
        }
    }

    private static void words(String code) {
        for (String word : FORBIDDEN) {
            Check.holds("'" + word + "' is not used", !Pattern.compile("\\b" + word + "\\b").matcher(code).find());
        }
        Check.holds("no lambda and no method reference", !code.contains("->") && !code.contains("::"));
        Check.holds("of System only arraycopy", !Pattern.compile("\\bSystem\\b(?!\\.arraycopy\\()").matcher(code).find());
        Check.holds("no class from a package", !Pattern.compile("\\bjavax?\\.").matcher(code).find());
        Matcher classes = Pattern.compile("\\bclass\\s+\\w+").matcher(code);
        int count = 0;
        while (classes.find()) {
            count++;
        }
        Check.holds("there are at most 12 classes (" + count + ")", count <= 12);
        for (String line : code.split("\n")) {
            boolean isArrayOrPart = !line.contains(" static ") || line.contains("(") || line.contains("class ")
                || line.contains(" final ");
            Check.holds("static fields are final: " + line.trim(), isArrayOrPart);
        }
    }

    /** A method stands between a line that ends with "{" and the "}" that is as far to the right. */
    private static void lengths(String source) {
        String[] lines = source.split("\n");
        Pattern begin = Pattern.compile("^( {4}| {8})(?=\\S)[\\w\\[\\]<> ]+\\([^)]*\\) \\{$");
        int methods = 0;
        for (int from = 0; from < lines.length; from++) {
            Matcher matcher = begin.matcher(lines[from]);
            if (!matcher.matches() || lines[from].trim().matches("(if|for|while|switch|else).*")) {
                continue;
            }
            methods++;
            int to = from;
            while (to < lines.length - 1 && !lines[to].equals(matcher.group(1) + "}")) {
                to++;
            }
            Check.holds("this has at most 60 lines: " + lines[from].trim(), to - from < 60);
            Check.holds("this has at most 7 parameters: " + lines[from].trim(), lines[from].split(",").length <= 7);
        }
        Check.holds("methods are found", methods >= 21);
    }
}
