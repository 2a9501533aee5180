/** save: two slots, each of which holds what was saved last. */
public final class Promise21SaveTest {
    public static void main(String[] args) {
        Heads x = new Heads();
        Check.due("save(0) without entries", x.save(0), 0);
        Check.pad(x, "a:5,b:6");
        x.read();
        x.set(RunningHeads.KEEP, 3);
        String before = Check.all(x);
        Check.due("save(1)", x.save(1), 2);
        Check.text("all behind it", Check.all(x), before);
        Check.due("count(14): save is no change", x.count(14), 2);
        x.drop(0);
        Check.due("restore(1)", x.restore(1), 2);
        Check.text("the state", Check.state(x), "12 12 3 a:5,b:6");
        Check.due("restore(0)", x.restore(0), 0);
        Check.text("the state", Check.state(x), "12 12 2 ");
        Check.due("save(1) over it", x.save(1), 0);
        Check.pad(x, "c:1");
        x.read();
        Check.due("restore(1)", x.restore(1), 0);
        Check.text("the state", Check.state(x), "12 12 2 ");
        errors(x);
        Check.end();
    }

    private static void errors(Heads x) {
        String before = Check.all(x);
        Check.due("save(-1)", x.save(-1), RunningHeads.BAD_VALUE);
        Check.due("save(2)", x.save(2), RunningHeads.BAD_VALUE);
        for (int far : Check.FAR) {
            Check.due("save(" + far + ")", x.save(far), RunningHeads.BAD_VALUE);
        }
        Check.text("all behind errors", Check.all(x), before);
    }
}
