/** bestLines: the LINES with the fewest blank lines; of several the least. */
public final class Promise16BestLinesTest {
    public static void main(String[] args) {
        best("a:20", 6, 0);
        best("a:2", 6, 3);
        best("a:7", 8, 0);
        best("a:14", 8, 0);
        // No room from 5 to 39 divides 41 lines, a prime number; seven times 6 is 42.
        best("a:40,b:1", 7, 1);
        best("a:39", 14, 0);
        highest();
        Heads none = new Heads();
        Check.due("bestLines(0) without entries", none.bestLines(0), 6);
        Check.due("bestLines(1) without entries", none.bestLines(1), 0);
        errors();
        Check.end();
    }

    private static void best(String text, int lines, int blank) {
        Heads x = Check.lexicon(text);
        String before = Check.all(x);
        Check.due("bestLines(0) of " + text, x.bestLines(0), lines);
        Check.due("bestLines(1) of " + text, x.bestLines(1), blank);
        Check.text("all behind them", Check.all(x), before);
    }

    private static void highest() {
        // 37 lines, a prime number, and a head of one line: only 38 has no blank line; with two lines, only 39.
        best("aa:37", 38, 0);
        // 39 lines fill three times 13, but there b finds one line only and goes to the next page.
        best("a:12,b:2,c:25", 40, 0);
        Heads x = Check.lexicon(12, 4, 2, "abcde:37");
        Check.due("bestLines(0) with a head of two lines", x.bestLines(0), 39);
        x.change(0, 38);
        Check.due("bestLines(0), two pages of 19", x.bestLines(0), 21);
    }

    private static void errors() {
        Heads x = Check.lexicon("a:7");
        Check.due("bestLines(-1)", x.bestLines(-1), RunningHeads.BAD_VALUE);
        Check.due("bestLines(2)", x.bestLines(2), RunningHeads.BAD_VALUE);
        for (int far : Check.FAR) {
            Check.due("bestLines(" + far + ")", x.bestLines(far), RunningHeads.BAD_VALUE);
        }
    }
}
