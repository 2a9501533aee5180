/** entry: where it stands, and its letters; here the rules by which entries are laid are tested, too. */
public final class Promise08EntryTest {
    public static void main(String[] args) {
        wholeOnThePage();
        parted();
        keptTogether();
        nextPage();
        partedOnAPageThatIsTooSmall();
        manyPages();
        letters();
        errors();
        Check.end();
    }

    // What 0 to 4: lines, page and line of the begin, page of the end, pages.

    private static void wholeOnThePage() {
        Heads x = Check.lexicon("a:5,b:6,c:1");
        Check.row("a", Check.entryRow(x, 0), 5, 0, 0, 0, 1);
        Check.row("b, which just fits", Check.entryRow(x, 1), 6, 0, 5, 0, 1);
        Check.row("c", Check.entryRow(x, 2), 1, 1, 0, 1, 1);
    }

    private static void parted() {
        Heads x = Check.lexicon("a:5,b:8,c:1");
        Check.row("b, of which 6 lines fit", Check.entryRow(x, 1), 8, 0, 5, 1, 2);
        Check.row("c", Check.entryRow(x, 2), 1, 1, 2, 1, 1);
        x = Check.lexicon("a:9,b:4,c:1");
        Check.row("b, of which 2 lines fit", Check.entryRow(x, 1), 4, 0, 9, 1, 2);
        Check.row("c", Check.entryRow(x, 2), 1, 1, 2, 1, 1);
    }

    private static void keptTogether() {
        Heads x = Check.lexicon("a:5,b:7,c:1");
        Check.row("b, of which 2 lines are kept", Check.entryRow(x, 1), 7, 0, 5, 1, 2);
        Check.row("c", Check.entryRow(x, 2), 1, 1, 2, 1, 1);
        x = Check.lexicon(12, 12, 3, "a:5,b:8,c:1");
        Check.row("b, of which 3 lines are kept", Check.entryRow(x, 1), 8, 0, 5, 1, 2);
        Check.row("c", Check.entryRow(x, 2), 1, 1, 3, 1, 1);
        x = Check.lexicon(12, 12, 1, "a:10,b:2,c:1");
        Check.row("b, of which 1 line is kept", Check.entryRow(x, 1), 2, 0, 10, 1, 2);
        Check.row("c", Check.entryRow(x, 2), 1, 1, 1, 1, 1);
        x = Check.lexicon(6, 12, 3, "a:6");
        Check.row("a, 3 and 3", Check.entryRow(x, 0), 6, 0, 0, 1, 2);
        Check.due("lines of page 0", x.page(0, 3), 3);
    }

    private static void nextPage() {
        Heads x = Check.lexicon("a:10,b:3,c:1");
        Check.row("b, as 1 line is less than are kept", Check.entryRow(x, 1), 3, 1, 0, 1, 1);
        Check.row("c", Check.entryRow(x, 2), 1, 1, 3, 1, 1);
        x = Check.lexicon("a:9,b:3,c:1");
        Check.row("b, which has no two times 2 lines", Check.entryRow(x, 1), 3, 1, 0, 1, 1);
        Check.row("c", Check.entryRow(x, 2), 1, 1, 3, 1, 1);
        x = Check.lexicon("a:10,b:12,c:1");
        Check.row("b, 10 and 2 on the next pages", Check.entryRow(x, 1), 12, 1, 0, 2, 2);
        Check.row("c", Check.entryRow(x, 2), 1, 2, 2, 2, 1);
    }

    private static void partedOnAPageThatIsTooSmall() {
        // The head takes two lines, so 4 are left; 5 lines can't be parted into 3 and 3.
        Heads x = Check.lexicon(6, 4, 3, "abcde:5");
        Check.row("abcde, 4 and 1", Check.entryRow(x, 0), 5, 0, 0, 1, 2);
        Check.due("lines of page 0", x.page(0, 3), 4);
        Check.due("lines of page 1", x.page(1, 3), 1);
        x = Check.lexicon(6, 4, 3, "ab:2,bcdef:5,c:1");
        Check.row("bcdef, 4 and 1 behind a page", Check.entryRow(x, 1), 5, 1, 0, 2, 2);
        Check.row("c", Check.entryRow(x, 2), 1, 2, 1, 2, 1);
    }

    private static void manyPages() {
        Heads x = Check.lexicon(6, 12, 1, "a:3,b:4,c:12,d:2");
        Check.row("a", Check.entryRow(x, 0), 3, 0, 0, 0, 1);
        Check.row("b", Check.entryRow(x, 1), 4, 0, 3, 1, 2);
        Check.row("c", Check.entryRow(x, 2), 12, 1, 2, 3, 3);
        Check.row("d", Check.entryRow(x, 3), 2, 3, 4, 4, 2);
        Heads y = Check.full();
        Check.due("pages", y.count(4), 300);
        Check.row("the last entry", Check.entryRow(y, 29), 40, 290, 0, 299, 10);
    }

    private static void letters() {
        Heads x = Check.lexicon("z:1,abcdefg:2");
        Check.due("entry(0, 5)", x.entry(0, 5), 7);
        Check.due("entry(1, 5)", x.entry(1, 5), 1);
        for (int letter = 0; letter < 7; letter++) {
            Check.due("entry(0, " + (6 + letter) + ")", x.entry(0, 6 + letter), 'a' + letter);
        }
        Check.due("entry(0, 13)", x.entry(0, 13), RunningHeads.NONE);
        Check.due("entry(1, 6)", x.entry(1, 6), 'z');
        Check.due("entry(1, 7)", x.entry(1, 7), RunningHeads.NONE);
        Check.due("entry(1, far)", x.entry(1, Integer.MAX_VALUE), RunningHeads.NONE);
    }

    private static void errors() {
        Heads x = Check.lexicon("a:1,b:2");
        Check.due("entry(2, 0)", x.entry(2, 0), RunningHeads.NO_SUCH);
        Check.due("entry(-1, 0)", x.entry(-1, 0), RunningHeads.NO_SUCH);
        Check.due("entry(2, -1)", x.entry(2, -1), RunningHeads.NO_SUCH);
        Check.due("entry(1, -1)", x.entry(1, -1), RunningHeads.BAD_VALUE);
        Check.due("entry(1, low)", x.entry(1, Integer.MIN_VALUE), RunningHeads.BAD_VALUE);
        for (int far : Check.FAR) {
            Check.due("entry(" + far + ", 5)", x.entry(far, 5), RunningHeads.NO_SUCH);
        }
    }
}
