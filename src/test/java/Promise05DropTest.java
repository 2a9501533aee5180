/** drop: an entry goes, and those behind it get numbers that are 1 less. */
public final class Promise05DropTest {
    public static void main(String[] args) {
        RunningHeads x = Check.lexicon("a:5,bb:6,c:40,d:1");
        Check.due("drop(1)", x.drop(1), 6);
        Check.text("the entries", Check.entries(x), "a:5,c:40,d:1");
        Check.due("drop(2)", x.drop(2), 1);
        Check.due("drop(2)", x.drop(2), RunningHeads.NO_SUCH);
        Check.due("drop(0)", x.drop(0), 5);
        Check.text("the entries", Check.entries(x), "c:40");
        Check.due("the line on which it begins now", x.entry(0, 2), 0);
        Check.due("count(14)", x.count(14), 4);
        String before = Check.all(x);
        Check.due("drop(-1)", x.drop(-1), RunningHeads.NO_SUCH);
        Check.due("drop(1)", x.drop(1), RunningHeads.NO_SUCH);
        for (int far : Check.FAR) {
            Check.due("drop(" + far + ")", x.drop(far), RunningHeads.NO_SUCH);
        }
        Check.text("all behind errors", Check.all(x), before);
        Check.due("drop(0) of the only one", x.drop(0), 40);
        Check.due("pages", x.count(4), 0);
        Check.due("passes", x.count(8), 1);
        Check.due("drop(0) of none", x.drop(0), RunningHeads.NO_SUCH);
        Check.end();
    }
}
