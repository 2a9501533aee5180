/** join: an entry gets the lines of the next one, which is dropped. */
public final class Promise06JoinTest {
    public static void main(String[] args) {
        Heads x = Check.lexicon("a:5,b:6,c:29,d:1,e:12");
        Check.due("join(1)", x.join(1), 35);
        Check.text("the entries", Check.entries(x), "a:5,b:35,d:1,e:12");
        Check.due("join(0) to 40", x.join(0), 40);
        Check.text("the entries", Check.entries(x), "a:40,d:1,e:12");
        Check.due("pages", x.count(4), 5);
        Check.due("count(14)", x.count(14), 3);
        String before = Check.all(x);
        Check.due("join(0) to 41", x.join(0), RunningHeads.TOO_MANY);
        Check.due("join(2), none behind it", x.join(2), RunningHeads.NO_SUCH);
        Check.due("join(3)", x.join(3), RunningHeads.NO_SUCH);
        Check.due("join(-1)", x.join(-1), RunningHeads.NO_SUCH);
        for (int far : Check.FAR) {
            Check.due("join(" + far + ")", x.join(far), RunningHeads.NO_SUCH);
        }
        Check.text("all behind errors", Check.all(x), before);
        Check.due("join(1)", x.join(1), 13);
        Check.text("the entries", Check.entries(x), "a:40,d:13");
        Check.due("undo()", x.undo(), 3);
        Check.text("the entries", Check.entries(x), "a:40,d:1,e:12");
        Check.end();
    }
}
