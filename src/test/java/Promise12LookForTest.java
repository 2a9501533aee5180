/** lookFor: the page by the heads. */
public final class Promise12LookForTest {
    public static void main(String[] args) {
        // The last entries of the pages 0 to 4 are b, cc, cc, d, d.
        RunningHeads x = Check.lexicon(6, 12, 1, "a:3,b:4,cc:12,d:2");
        look(x, "a", 0);
        look(x, "aaaaaaa", 0);
        look(x, "b", 0);
        look(x, "ba", 1);
        look(x, "c", 1);
        look(x, "cc", 1);
        look(x, "cca", 3);
        look(x, "cd", 3);
        look(x, "d", 3);
        look(x, "da", 4);
        look(x, "zzzzzzz", 4);
        pagesThatAreGone();
        look(Check.full(), "zzzzzzz", 299);
        errors(x);
        Check.end();
    }

    private static void pagesThatAreGone() {
        RunningHeads x = Check.lexicon("a:11,b:11,c:11");
        look(x, "c", 2);
        x.drop(1);
        look(x, "zz", 1);
        // Page 1 is gone, but b stands again as entry 1.
        x.set(RunningHeads.LINES, 40);
        look(x, "zz", 0);
        look(x, "c", 0);
    }

    private static void look(RunningHeads x, String word, int want) {
        Check.pad(x, word);
        String before = Check.all(x);
        Check.due("lookFor() " + word, x.lookFor(), want);
        Check.text("all behind it", Check.all(x), before);
    }

    private static void errors(RunningHeads x) {
        for (String text : new String[] {"", "abcdefgh", "a:1", "A", "a-b", "`", "{", "a1"}) {
            look(x, text, RunningHeads.BAD_TEXT);
        }
        RunningHeads y = new RunningHeads();
        look(y, "", RunningHeads.BAD_TEXT);
        look(y, "1", RunningHeads.BAD_TEXT);
        look(y, "a", RunningHeads.NONE);
    }
}
