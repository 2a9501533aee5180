/** page: what is on it, and its head; here passes are tested, too. */
public final class Promise09PageTest {
    public static void main(String[] args) {
        numbers();
        headOfTwoLines();
        notSettled();
        characters();
        errors();
        Check.end();
    }

    // What 0 to 5: first and last entry, how many begin, lines, blank lines, lines of the head.

    private static void numbers() {
        Heads x = Check.lexicon(6, 12, 1, "a:3,b:4,c:12,d:2");
        Check.row("page 0", Check.pageRow(x, 0), 0, 1, 2, 5, 0, 1);
        Check.row("page 1", Check.pageRow(x, 1), 1, 2, 1, 5, 0, 1);
        Check.row("page 2", Check.pageRow(x, 2), 2, 2, 0, 5, 0, 1);
        Check.row("page 3", Check.pageRow(x, 3), 2, 3, 1, 5, 0, 1);
        Check.row("page 4", Check.pageRow(x, 4), 3, 3, 0, 1, 4, 1);
        x = Check.lexicon("a:5,b:7");
        Check.row("page 0 with a blank line", Check.pageRow(x, 0), 0, 1, 2, 10, 1, 1);
        Check.row("page 1", Check.pageRow(x, 1), 1, 1, 0, 2, 9, 1);
    }

    private static void headOfTwoLines() {
        // abcde-bc has 8 characters.
        Heads x = Check.lexicon(12, 8, 2, "abcde:5,bc:3");
        Check.row("a head that just fits", Check.pageRow(x, 0), 0, 1, 2, 8, 3, 1);
        Check.due("how wide it is", x.page(0, 6), 8);
        x.set(RunningHeads.WIDTH, 7);
        Check.row("a head that does not", Check.pageRow(x, 0), 0, 1, 2, 8, 2, 2);
        Check.due("how wide it is", x.page(0, 6), 8);
        Check.due("passes", x.count(8), 2);
        // Behind pass 1 (all 5 lines fit) the head of page 0 takes two lines; so in pass 2 there is a
        // page 1, with one line as it was not there; in pass 3 its head takes two, too.
        x = Check.lexicon(6, 4, 3, "abcde:5");
        Check.row("page 0", Check.pageRow(x, 0), 0, 0, 1, 4, 0, 2);
        Check.row("page 1", Check.pageRow(x, 1), 0, 0, 0, 1, 3, 2);
        Check.due("passes", x.count(8), 3);
    }

    private static void notSettled() {
        // With heads of one line page 1 has lines of ax and bx (5 characters); with two lines there all
        // of bx goes to page 2, and the head of page 1 is ax. The tenth pass is one of the latter.
        Heads x = Check.lexicon(7, 4, 3, "ax:8,bx:9");
        Check.due("passes", x.count(8), 10);
        Check.due("settled", x.count(9), 0);
        Check.due("pages", x.count(4), 4);
        Check.row("page 0", Check.pageRow(x, 0), 0, 0, 1, 5, 1, 1);
        Check.row("page 1", Check.pageRow(x, 1), 0, 0, 0, 3, 2, 2);
        Check.row("page 2", Check.pageRow(x, 2), 1, 1, 1, 6, 0, 1);
        Check.row("page 3", Check.pageRow(x, 3), 1, 1, 0, 3, 3, 1);
        Check.due("how wide the head of page 1 is", x.page(1, 6), 2);
    }

    private static void characters() {
        Heads x = Check.lexicon("abcdefg:5,b:5,zyxwvut:3");
        Check.text("the head of page 0", Check.head(x, 0), "abcdefg-b");
        Check.due("the first character", x.page(0, 7), 'a');
        Check.due("the seventh", x.page(0, 13), 'g');
        Check.due("the eighth", x.page(0, 14), '-');
        Check.due("the ninth", x.page(0, 15), 'b');
        Check.due("the tenth", x.page(0, 16), RunningHeads.NONE);
        Check.text("the head of page 1", Check.head(x, 1), "zyxwvut");
        Check.due("none behind the only word", x.page(1, 14), RunningHeads.NONE);
        Check.due("none far behind", x.page(1, Integer.MAX_VALUE), RunningHeads.NONE);
        x = Check.lexicon("abcdefg:1,zyxwvut:1");
        Check.due("the widest head", x.page(0, 6), 15);
        Check.text("the head", Check.head(x, 0), "abcdefg-zyxwvut");
        Check.due("none behind it", x.page(0, 22), RunningHeads.NONE);
    }

    private static void errors() {
        Heads x = Check.lexicon("a:11,b:2");
        Check.due("page(2, 0)", x.page(2, 0), RunningHeads.NO_SUCH);
        Check.due("page(-1, 0)", x.page(-1, 0), RunningHeads.NO_SUCH);
        Check.due("page(2, -1)", x.page(2, -1), RunningHeads.NO_SUCH);
        Check.due("page(1, -1)", x.page(1, -1), RunningHeads.BAD_VALUE);
        Check.due("page(1, low)", x.page(1, Integer.MIN_VALUE), RunningHeads.BAD_VALUE);
        for (int far : Check.FAR) {
            Check.due("page(" + far + ", 6)", x.page(far, 6), RunningHeads.NO_SUCH);
        }
        x.drop(1);
        Check.due("page(1, 0) of a page that was there", x.page(1, 0), RunningHeads.NO_SUCH);
    }
}
