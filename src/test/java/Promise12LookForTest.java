/** lookFor: the page by the heads. */
public final class Promise12LookForTest {
    public static void main(String[] args) {
        look("a", 0);
        look("aaaaaaa", 0);
        look("b", 0);
        look("ba", 1);
        look("c", 1);
        look("cc", 1);
        look("cca", 3);
        look("cd", 3);
        look("d", 3);
        look("da", 4);
        look("zzzzzzz", 4);
        pagesThatAreGone();
        theLastOfThreeHundred();
        errors();
        Check.end();
    }

    private static void pagesThatAreGone() {
        Heads x = Check.lexicon("a:11,b:11,c:11");
        look(x, "c", 2);
        x.drop(1);
        look(x, "zz", 1);
        // Page 1 is gone, but b stands again as entry 1.
        x.set(RunningHeads.LINES, 40);
        look(x, "zz", 0);
        look(x, "c", 0);
    }

    private static void theLastOfThreeHundred() {
        Heads x = Check.full();
        Check.pad(x, "zzzzzzz");
        Check.due("lookFor() zzzzzzz", x.lookFor(), 299);
    }

    private static void look(String word, int want) {
        // The last entries of the pages 0 to 4 are b, cc, cc, d, d.
        look(Check.lexicon(6, 12, 1, "a:3,b:4,cc:12,d:2"), word, want);
    }

    private static void look(Heads x, String word, int want) {
        Check.pad(x, word);
        String before = Check.all(x);
        Check.due("lookFor() " + word, x.lookFor(), want);
        Check.text("all behind it", Check.all(x), before);
    }

    private static void errors() {
        for (String text : new String[] {"", "abcdefgh", "a:1", "A", "a-b", "`", "{", "a1"}) {
            look(text, RunningHeads.BAD_TEXT);
        }
        Heads y = new Heads();
        look(y, "", RunningHeads.BAD_TEXT);
        look(y, "1", RunningHeads.BAD_TEXT);
        look(y, "a", RunningHeads.NONE);
    }
}
