/** count: each of its numbers. */
public final class Promise11CountTest {
    public static void main(String[] args) {
        Heads x = Check.lexicon(6, 13, 1, "a:3,b:4,c:12,d:2");
        Check.put(x, "pad");
        counts(x, 6, 13, 1, 4, 5, 3, 21, 4, 1, 1, 2, 3, 0, 3, 4);
        // Page 0: ax:5, page 1: ax:3, page 2: bx:6, page 3: bx:3; passes go on, and page 1 has a head of two lines.
        x = Check.lexicon(7, 4, 3, "ax:8,bx:9");
        counts(x, 7, 4, 3, 2, 4, 2, 17, 1 + 2 + 0 + 3, 10, 0, 2, 2, 1, 0, 4);
        x = Check.lexicon("a:11,b:11");
        counts(x, 12, 12, 2, 2, 2, 1, 22, 0, 1, 1, 0, 0, 0, 0, 1);
        severalPasses();
        pagesThatAreGone();
        errors(x);
        Check.end();
    }

    private static void counts(Heads x, int... want) {
        Check.due("numbers", want.length, 15);
        for (int what = 0; what < want.length; what++) {
            Check.due("count(" + what + ")", x.count(what), want[what]);
        }
    }

    private static void severalPasses() {
        // All five are on page 0 in pass 1, its head takes two lines, and then all still fit.
        Heads x = Check.lexicon(12, 4, 1, "aaa:2,b:2,c:2,d:2,eee:2");
        Check.due("passes", x.count(8), 2);
        Check.due("settled", x.count(9), 1);
        Check.due("heads of two lines", x.count(12), 1);
        Check.due("blank lines", x.count(7), 0);
        // The sixth line goes to a page 1 in pass 2; its head, eee, takes one line.
        x.change(4, 3);
        Check.due("pages", x.count(4), 2);
        Check.due("passes", x.count(8), 2);
        Check.due("blank lines", x.count(7), 10);
    }

    private static void pagesThatAreGone() {
        Heads x = Check.lexicon(6, 4, 1, "aaaaa:4,bbbbb:4,ccccc:4");
        counts(x, 6, 4, 1, 3, 3, 2, 12, 0, 2, 1, 0, 0, 3, 0, 4);
        x.drop(2);
        counts(x, 6, 4, 1, 2, 2, 1, 8, 0, 2, 1, 0, 0, 2, 0, 5);
        x.drop(1);
        x.drop(0);
        counts(x, 6, 4, 1, 0, 0, 0, 0, 0, 1, 1, 0, 0, 0, 0, 6);
    }

    private static void errors(Heads x) {
        Check.due("count(-1)", x.count(-1), RunningHeads.BAD_VALUE);
        Check.due("count(15)", x.count(15), RunningHeads.BAD_VALUE);
        for (int far : Check.FAR) {
            Check.due("count(" + far + ")", x.count(far), RunningHeads.BAD_VALUE);
        }
    }
}
