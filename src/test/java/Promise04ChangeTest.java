/** change: the lines of an entry. */
public final class Promise04ChangeTest {
    public static void main(String[] args) {
        Heads x = Check.lexicon("a:5,b:6,c:40");
        Check.due("pages", x.count(4), 5);
        Check.due("change(2, 1)", x.change(2, 1), 40);
        Check.due("change(2, 2)", x.change(2, 2), 1);
        Check.due("change(0, 40)", x.change(0, 40), 5);
        Check.due("change(1, 6)", x.change(1, 6), 6);
        Check.text("the entries", Check.entries(x), "a:40,b:6,c:2");
        // a fills three pages of 11 lines and has 7 on page 3; of b 4 come there, and 2 on the next one.
        Check.due("the page on which a ends", x.entry(0, 3), 3);
        Check.due("the page on which b ends", x.entry(1, 3), 4);
        Check.due("count(14)", x.count(14), 5);
        errors(x);
        Check.end();
    }

    private static void errors(Heads x) {
        String before = Check.all(x);
        Check.due("change(-1, 1)", x.change(-1, 1), RunningHeads.NO_SUCH);
        Check.due("change(3, 1)", x.change(3, 1), RunningHeads.NO_SUCH);
        Check.due("change(3, 0)", x.change(3, 0), RunningHeads.NO_SUCH);
        Check.due("change(0, 0)", x.change(0, 0), RunningHeads.BAD_VALUE);
        Check.due("change(0, 41)", x.change(0, 41), RunningHeads.BAD_VALUE);
        for (int far : Check.FAR) {
            Check.due("change(" + far + ", 1)", x.change(far, 1), RunningHeads.NO_SUCH);
            Check.due("change(0, " + far + ")", x.change(0, far), RunningHeads.BAD_VALUE);
        }
        Check.text("all behind errors", Check.all(x), before);
    }
}
