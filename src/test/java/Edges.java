import java.util.ArrayList;
import java.util.HashMap;
import java.util.List;
import java.util.Map;
import java.util.function.Supplier;

/**
 * What the tests of single sentences have in common. Each test stands under the heading of the document's
 * part (a promise, or a part of "Terms"), quotes the sentence that it is for, which has to stand there word
 * by word, and would fail if that sentence were broken.
 */
abstract class Edges {
    static final int NO_SUCH = -1, BAD_VALUE = -2, BAD_TEXT = -3, TOO_MANY = -4, NOT_POSSIBLE = -5, NONE = -6;
    static final int LINES = 0, WIDTH = 1, KEEP = 2;
    static final int[] LEAST = {6, 4, 1}, MOST = {40, 30, 3}, FIRST = {12, 12, 2};
    static final int LOW = Integer.MIN_VALUE, HIGH = Integer.MAX_VALUE;
    // 15 entries, to which a digit can be added, so that the pad is full.
    static final String FIFTY_NINE = "a:1,b:1,c:1,d:1,e:1,f:1,g:1,h:1,i:1,j:1,k:1,l:1,m:1,n:1,o:1";
    // What is not one to seven letters a to z.
    static final String[] NO_WORDS = {"", "abcdefgh", "A", "Z", "`", "{", "@", "[", "0", "a1", "a-b", "a:1", "a,b", "~",
        "abcdef{", "`bcdefg"};

    private static final Document DOCUMENT = new Document();
    private static final Map<String, List<String>> QUOTED = new HashMap<>();
    private static String heading = "";
    private static boolean isTelling = false;
    private static int passed = 0;
    private static int failed = 0;

    /** From now on the name of each test that passes is told, too. */
    static void tellNames() {
        isTelling = true;
    }

    /** The tests that follow are for the part of the document under this heading. */
    static void part(String of) {
        heading = of;
        if (DOCUMENT.part(of).isEmpty()) {
            fail(of, "the document has no such part");
        }
    }

    /** One test: the sentence that it is for, and the case that it tries. */
    static void edge(String sentence, String tried, Runnable test) {
        String name = heading + ": \"" + sentence + "\": " + tried;
        QUOTED.computeIfAbsent(heading, none -> new ArrayList<>()).add(sentence);
        if (!DOCUMENT.part(heading).contains(sentence)) {
            fail(name, "this sentence does not stand there");
            return;
        }
        int before = Check.wrong();
        try {
            test.run();
        } catch (RuntimeException | StackOverflowError thrown) {
            fail(name, "it threw " + thrown);
            return;
        }
        if (Check.wrong() == before) {
            passed++;
            if (isTelling) {
                System.out.println(name);
            }
        } else {
            fail(name, Check.wrong() - before + " answers are not as due");
        }
    }

    private static void fail(String name, String why) {
        failed++;
        System.out.println("FAILED: " + name + ": " + why);
    }

    /**
     * Each sentence of the document has a test that quotes some of it; but for the parts and the sentences that
     * are told here, which name no boundary, and for the line that each promise has with its method's face.
     */
    static void everySentenceHasATest(List<String> otherParts, List<String> otherSentences) {
        for (String of : DOCUMENT.headings()) {
            if (otherParts.contains(of)) {
                continue;
            }
            String text = DOCUMENT.part(of);
            for (int[] sentence : DOCUMENT.sentences(of)) {
                String words = text.substring(sentence[0], sentence[1]).trim();
                boolean isFace = words.matches("`(int )?\\w+\\(.*\\)`");
                if (!isFace && !otherSentences.contains(words) && !isQuoted(of, text, sentence)) {
                    fail(of + ": \"" + words + "\"", "no test is for this sentence");
                }
            }
        }
    }

    private static boolean isQuoted(String of, String text, int[] sentence) {
        for (String quote : QUOTED.getOrDefault(of, List.of())) {
            for (int at = text.indexOf(quote); at >= 0; at = text.indexOf(quote, at + 1)) {
                if (at < sentence[1] && at + quote.length() > sentence[0]) {
                    return true;
                }
            }
        }
        return false;
    }

    static void end() {
        System.out.println(passed + " passed, " + failed + " failed");
        System.exit(failed == 0 && passed > 0 ? 0 : 1);
    }

    // ---- what a test says

    static void due(String call, long got, long want) {
        Check.due(call, got, want);
    }

    static void same(String what, String got, String want) {
        Check.text(what, got, want);
    }

    static void holds(String what, boolean isSo) {
        Check.holds(what, isSo);
    }

    static void row(String name, int[] got, int... want) {
        Check.row(name, got, want);
    }

    // ---- objects

    static Heads lexicon(String... texts) {
        return Check.lexicon(texts);
    }

    static Heads lexicon(int lines, int width, int keep, String... texts) {
        return Check.lexicon(lines, width, keep, texts);
    }

    /** An object with this pad, nothing else. */
    static Heads padOnly(String pad) {
        Heads x = new Heads();
        Check.put(x, pad);
        return x;
    }

    static Heads withPad(Heads x, String pad) {
        Check.pad(x, pad);
        return x;
    }

    /** As many entries, at most 30, of one letter or two and of so many lines each. */
    static Heads many(int entries, int lines) {
        Heads x = new Heads();
        StringBuilder text = new StringBuilder();
        for (int i = 0; i < entries; i++) {
            String entry = word(i) + ":" + lines;
            if (text.length() + 1 + entry.length() > 60) {
                Check.put(x, text.toString());
                due("read() of many entries", x.read(), i);
                text.setLength(0);
            }
            text.append(text.length() == 0 ? "" : ",").append(entry);
        }
        Check.put(x, text.toString());
        due("read() of many entries", x.read(), entries);
        return x;
    }

    /** The word of the entry i of many: a to z, and za, zb and so on behind them. */
    static String word(int i) {
        return i < 26 ? "" + (char) ('a' + i) : "z" + (char) ('a' + i - 26);
    }

    /** Other settings than the first ones, a full history of six different states, both slots taken, and this pad. */
    static Heads busy(String pad) {
        Heads x = lexicon(7, 5, 3, "a:5,bb:8,ccccccc:40");
        due("save(0)", x.save(0), 3);
        due("change(1, 9)", x.change(1, 9), 8);
        due("set(WIDTH, 6)", x.set(WIDTH, 6), 5);
        due("save(1)", x.save(1), 3);
        due("change(2, 7)", x.change(2, 7), 40);
        due("set(LINES, 8)", x.set(LINES, 8), 7);
        due("count(14)", x.count(14), 6);
        Check.put(x, pad);
        return x;
    }

    /** An entry and a history of one state, slots in which nothing was saved, and this pad. */
    static Heads calm(String pad) {
        Heads x = lexicon("m:5");
        Check.put(x, pad);
        return x;
    }

    /** The call answers this, and changes nothing at all of an object that is made so. */
    static void unchanged(String name, Supplier<Heads> made, Twins.Call call, int answer) {
        Twins.unchanged(name, made, call, answer);
    }

    /** The call is refused with this error by a busy object and changes nothing of it. */
    static void refused(String name, String pad, Twins.Call call, int error) {
        Twins.unchanged(name, () -> busy(pad), call, error);
    }
}
