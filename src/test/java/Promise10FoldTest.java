/** fold: the left and the right name. */
public final class Promise10FoldTest {
    public static void main(String[] args) {
        names();
        errors();
        Check.end();
    }

    private static void names() {
        // Page 0 has a and b, 1 b and c, 2 c, 3 c and d, 4 d.
        Heads x = Check.lexicon(6, 12, 1, "a:3,b:4,c:12,d:2");
        Check.due("the last one that begins on page 0", x.fold(0, true), 1);
        Check.due("the first one that begins on page 1", x.fold(0, false), 2);
        Check.due("none begins on page 2", x.fold(1, true), 2);
        Check.due("the first one that begins on page 3", x.fold(1, false), 3);
        Check.due("none begins on page 4", x.fold(2, true), 3);
        Check.due("no page 5", x.fold(2, false), RunningHeads.NONE);
        // Page 0 has a, 1 b, c and d, 2 d, e and f, 3 f.
        x = Check.lexicon(6, 12, 1, "a:5,b:1,c:1,d:4,e:1,f:5");
        Check.due("page 0", x.fold(0, true), 0);
        Check.due("b begins at the top of page 1", x.fold(0, false), 1);
        Check.due("f is the last on page 2", x.fold(1, true), 5);
        Check.due("none begins on page 3", x.fold(1, false), 5);
        // Page 1 has the end of a, and b, c and d begin there.
        x = Check.lexicon(6, 12, 1, "a:7,b:1,c:1,d:1");
        Check.due("page 0", x.fold(0, true), 0);
        Check.due("b is the first that begins on page 1", x.fold(0, false), 1);
    }

    private static void errors() {
        Heads x = Check.lexicon("a:1");
        Check.due("fold(0, true)", x.fold(0, true), 0);
        Check.due("fold(0, false)", x.fold(0, false), RunningHeads.NONE);
        for (boolean isLeft : new boolean[] {true, false}) {
            Check.due("fold(-1, ..)", x.fold(-1, isLeft), RunningHeads.NO_SUCH);
            Check.due("fold(1, ..)", x.fold(1, isLeft), RunningHeads.NO_SUCH);
            for (int far : Check.FAR) {
                Check.due("fold(" + far + ", ..)", x.fold(far, isLeft), RunningHeads.NO_SUCH);
            }
            // Twice this number is 0 again.
            Check.due("fold(1 << 31, ..)", x.fold(1 << 31, isLeft), RunningHeads.NO_SUCH);
            Check.due("fold(1 << 30, ..)", x.fold(1 << 30, isLeft), RunningHeads.NO_SUCH);
        }
        x.drop(0);
        Check.due("fold(0, true) without pages", x.fold(0, true), RunningHeads.NO_SUCH);
        Check.due("fold(0, false) without pages", x.fold(0, false), RunningHeads.NO_SUCH);
    }
}
