/** A new object is a lexicon without entries. */
public final class Promise01NewObjectTest {
    public static void main(String[] args) {
        numbers();
        nothingThere();
        objectsShareNothing();
        Check.end();
    }

    private static void numbers() {
        Heads x = new Heads();
        int[] want = {12, 12, 2, 0, 0, 0, 0, 0, 1, 1, 0, 0, 0, 0, 0};
        for (int what = 0; what < want.length; what++) {
            Check.due("count(" + what + ") of a new object", x.count(what), want[what]);
        }
    }

    private static void nothingThere() {
        Heads x = new Heads();
        Check.due("entry(0, 0)", x.entry(0, 0), RunningHeads.NO_SUCH);
        Check.due("page(0, 0)", x.page(0, 0), RunningHeads.NO_SUCH);
        Check.due("fold(0, true)", x.fold(0, true), RunningHeads.NO_SUCH);
        Check.due("fold(0, false)", x.fold(0, false), RunningHeads.NO_SUCH);
        Check.due("fault()", x.fault(), 0);
        Check.due("wipe()", x.wipe(), 0);
        Check.due("undo()", x.undo(), RunningHeads.NOT_POSSIBLE);
        Check.due("restore(0)", x.restore(0), RunningHeads.NOT_POSSIBLE);
        Check.due("restore(1)", x.restore(1), RunningHeads.NOT_POSSIBLE);
        Check.due("leastLines(1)", x.leastLines(1), 6);
        Check.due("bestLines(0)", x.bestLines(0), 6);
        Check.due("bestLines(1)", x.bestLines(1), 0);
    }

    private static void objectsShareNothing() {
        Heads x = Check.lexicon(20, 20, 3, "a:5,b:6");
        x.save(0);
        Check.put(x, "abc");
        Heads y = new Heads();
        Check.text("the state of a new object", Check.state(y), "12 12 2 ");
        Check.due("count(13) of a new object", y.count(13), 0);
        Check.due("restore(0) of a new object", y.restore(0), RunningHeads.NOT_POSSIBLE);
        Check.due("undo() of a new object", y.undo(), RunningHeads.NOT_POSSIBLE);
        Check.text("the state of the other one", Check.state(x), "20 20 3 a:5,b:6");
    }
}
