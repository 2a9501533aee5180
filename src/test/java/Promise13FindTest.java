/** find: the entry of a word. */
public final class Promise13FindTest {
    public static void main(String[] args) {
        RunningHeads x = Check.lexicon("ab:1,abc:2,b:3,abcdefg:4,z:5");
        find(x, "ab", 0);
        find(x, "abc", 1);
        find(x, "abcdefg", 2);
        find(x, "b", 3);
        find(x, "z", 4);
        for (String word : new String[] {"a", "abcdef", "abd", "aa", "zz", "zzzzzzz", "ba"}) {
            find(x, word, RunningHeads.NONE);
        }
        for (String text : new String[] {"", "abcdefgh", "ab:1", "AB", "`", "{", "1", "a,b"}) {
            find(x, text, RunningHeads.BAD_TEXT);
        }
        find(new RunningHeads(), "a", RunningHeads.NONE);
        find(new RunningHeads(), "", RunningHeads.BAD_TEXT);
        Check.end();
    }

    private static void find(RunningHeads x, String word, int want) {
        Check.pad(x, word);
        String before = Check.all(x);
        Check.due("find() " + word, x.find(), want);
        Check.text("all behind it", Check.all(x), before);
    }
}
