/** rename: an entry gets the word of the pad, and stands where that belongs. */
public final class Promise07RenameTest {
    public static void main(String[] args) {
        places();
        errors();
        Check.end();
    }

    private static void places() {
        Heads x = Check.lexicon("b:1,d:2,f:3,h:4");
        rename(x, 0, "g", 2, "d:2,f:3,g:1,h:4");
        rename(x, 2, "a", 0, "a:1,d:2,f:3,h:4");
        rename(x, 0, "zzzzzzz", 3, "d:2,f:3,h:4,zzzzzzz:1");
        rename(x, 1, "e", 1, "d:2,e:3,h:4,zzzzzzz:1");
        rename(x, 3, "da", 1, "d:2,da:1,e:3,h:4");
        rename(x, 1, "da", 1, "d:2,da:1,e:3,h:4");
        pagesChange();
        Check.due("count(14)", x.count(14), 6);
        Check.due("undo()", x.undo(), 5);
        Check.due("undo()", x.undo(), 4);
        Check.text("the entries", Check.entries(x), "d:2,e:3,h:4,zzzzzzz:1");
        Check.text("the head", Check.head(x, 0), "d-zzzzzzz");
    }

    private static void pagesChange() {
        Heads x = Check.lexicon("b:9,d:3");
        rename(x, 1, "a", 0, "a:3,b:9");
        Check.text("the head of page 0", Check.head(x, 0), "a-b");
        Check.row("b is parted now", Check.entryRow(x, 1), 9, 0, 3, 1, 2);
        rename(x, 0, "abcdefg", 0, "abcdefg:3,b:9");
        x.set(RunningHeads.WIDTH, 5);
        Check.due("lines of the head", x.page(0, 5), 2);
        rename(x, 0, "abc", 0, "abc:3,b:9");
        Check.due("lines of the head", x.page(0, 5), 1);
    }

    private static void rename(Heads x, int entry, String word, int want, String entries) {
        Check.pad(x, word);
        Check.due("rename(" + entry + ") to " + word, x.rename(entry), want);
        Check.due("the length of the pad", x.count(13), 0);
        Check.text("the entries", Check.entries(x), entries);
    }

    private static void errors() {
        bad("", 0, RunningHeads.BAD_TEXT);
        bad("abcdefgh", 0, RunningHeads.BAD_TEXT);
        bad("B", 0, RunningHeads.BAD_TEXT);
        bad("a:1", 0, RunningHeads.BAD_TEXT);
        bad("a1", 0, RunningHeads.BAD_TEXT);
        bad("a`", 0, RunningHeads.BAD_TEXT);
        bad("a{", 0, RunningHeads.BAD_TEXT);
        bad("d", 0, RunningHeads.NOT_POSSIBLE);
        bad("b", 1, RunningHeads.NOT_POSSIBLE);
        bad("c", 2, RunningHeads.NO_SUCH);
        bad("", 2, RunningHeads.NO_SUCH);
        bad("d", -1, RunningHeads.NO_SUCH);
        for (int far : Check.FAR) {
            bad("c", far, RunningHeads.NO_SUCH);
        }
    }

    private static void bad(String word, int entry, int want) {
        Heads x = Check.lexicon("b:1,d:2");
        Check.pad(x, word);
        String before = Check.all(x);
        Check.due("rename(" + entry + ") to '" + word + "'", x.rename(entry), want);
        Check.text("all behind the error", Check.all(x), before);
        Check.due("the length of the pad", x.count(13), word.length());
    }
}
