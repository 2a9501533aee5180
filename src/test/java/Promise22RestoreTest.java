/** restore: what was saved last in a slot, which keeps it. */
public final class Promise22RestoreTest {
    public static void main(String[] args) {
        errors();
        slotsKeep();
        isAChange();
        Check.end();
    }

    private static void errors() {
        Heads x = Check.lexicon("a:5");
        x.save(1);
        String before = Check.all(x);
        Check.due("restore(0)", x.restore(0), RunningHeads.NOT_POSSIBLE);
        Check.due("restore(-1)", x.restore(-1), RunningHeads.BAD_VALUE);
        Check.due("restore(2)", x.restore(2), RunningHeads.BAD_VALUE);
        for (int far : Check.FAR) {
            Check.due("restore(" + far + ")", x.restore(far), RunningHeads.BAD_VALUE);
        }
        Check.text("all behind errors", Check.all(x), before);
    }

    private static void slotsKeep() {
        Heads x = Check.lexicon(8, 9, 1, "axxx:7,bxx:5,cx:9");
        String pages = Check.pages(x);
        Check.due("save(0)", x.save(0), 3);
        for (int turn = 0; turn < 3; turn++) {
            x.set(RunningHeads.LINES, 20 + turn);
            x.set(RunningHeads.WIDTH, 20 + turn);
            x.set(RunningHeads.KEEP, 2);
            x.drop(0);
            x.change(0, 40);
            Check.put(x, "left");
            Check.due("restore(0)", x.restore(0), 3);
            Check.due("the pad stays", x.wipe(), 4);
            Check.text("the state", Check.state(x), "8 9 1 axxx:7,bxx:5,cx:9");
            Check.text("the pages", Check.pages(x), pages);
        }
    }

    private static void isAChange() {
        Heads x = Check.lexicon("a:5");
        x.save(0);
        x.change(0, 6);
        Check.due("restore(0)", x.restore(0), 1);
        Check.due("count(14)", x.count(14), 3);
        Check.due("restore(0) of the same", x.restore(0), 1);
        Check.due("count(14)", x.count(14), 4);
        Check.due("undo()", x.undo(), 3);
        Check.text("the state", Check.state(x), "12 12 2 a:5");
        Check.due("undo()", x.undo(), 2);
        Check.text("the state", Check.state(x), "12 12 2 a:6");
    }
}
