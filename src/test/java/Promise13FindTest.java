/** find: the entry of a word. */
public final class Promise13FindTest {
    public static void main(String[] args) {
        find("ab", 0);
        find("abc", 1);
        find("abcdefg", 2);
        find("b", 3);
        find("z", 4);
        for (String word : new String[] {"a", "abcdef", "abd", "aa", "zz", "zzzzzzz", "ba"}) {
            find(word, RunningHeads.NONE);
        }
        for (String text : new String[] {"", "abcdefgh", "ab:1", "AB", "`", "{", "1", "a,b"}) {
            find(text, RunningHeads.BAD_TEXT);
        }
        find(new Heads(), "a", RunningHeads.NONE);
        find(new Heads(), "", RunningHeads.BAD_TEXT);
        Check.end();
    }

    private static void find(String word, int want) {
        find(Check.lexicon("ab:1,abc:2,b:3,abcdefg:4,z:5"), word, want);
    }

    private static void find(Heads x, String word, int want) {
        Check.pad(x, word);
        String before = Check.all(x);
        Check.due("find() " + word, x.find(), want);
        Check.text("all behind it", Check.all(x), before);
    }
}
