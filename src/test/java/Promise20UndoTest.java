/** undo: the latest changes, at most six of them. */
public final class Promise20UndoTest {
    public static void main(String[] args) {
        eachChange();
        atMostSix();
        errorsAndQuestionsAreNoChanges();
        notThePadNorTheSlots();
        Check.end();
    }

    private static void eachChange() {
        Heads x = Check.lexicon("a:5,b:6,c:40");
        x.save(0);
        String[] states = new String[6];
        String[] pages = new String[6];
        for (int change = 0; change < 6; change++) {
            states[change] = Check.state(x);
            pages[change] = pageCounts(x);
            makeChange(x, change);
            Check.due("count(14)", x.count(14), Math.min(6, change + 2));
        }
        for (int change = 5; change >= 0; change--) {
            Check.due("undo()", x.undo(), change);
            Check.due("count(14)", x.count(14), change);
            Check.text("the state before change " + change, Check.state(x), states[change]);
            Check.text("the pages before change " + change, pageCounts(x), pages[change]);
        }
        Check.due("undo() of none", x.undo(), RunningHeads.NOT_POSSIBLE);
        Check.text("the state", Check.state(x), "12 12 2 a:5,b:6,c:40");
    }

    private static String pageCounts(Heads x) {
        StringBuilder counts = new StringBuilder();
        for (int what = 4; what <= 12; what++) {
            counts.append(x.count(what)).append(' ');
        }
        return counts.toString();
    }

    private static void makeChange(Heads x, int change) {
        switch (change) {
            case 0 -> Check.due("set", x.set(RunningHeads.LINES, 9), 12);
            case 1 -> Check.due("change", x.change(2, 12), 40);
            case 2 -> Check.due("join", x.join(1), 18);
            case 3 -> Check.due("drop", x.drop(0), 5);
            case 4 -> {
                Check.pad(x, "abcdefg");
                Check.due("rename", x.rename(0), 0);
            }
            default -> Check.due("restore", x.restore(0), 3);
        }
    }

    private static void atMostSix() {
        Heads x = new Heads();
        for (int width = 13; width <= 20; width++) {
            Check.due("set", x.set(RunningHeads.WIDTH, width), width - 1);
            Check.due("count(14)", x.count(14), Math.min(6, width - 12));
        }
        for (int left = 5; left >= 0; left--) {
            Check.due("undo()", x.undo(), left);
            Check.due("count(WIDTH)", x.count(1), 14 + left);
        }
        Check.due("undo() of none", x.undo(), RunningHeads.NOT_POSSIBLE);
        Check.due("count(WIDTH)", x.count(1), 14);
        Check.due("set again", x.set(RunningHeads.WIDTH, 30), 14);
        Check.due("undo()", x.undo(), 0);
        Check.due("count(WIDTH)", x.count(1), 14);
    }

    private static void errorsAndQuestionsAreNoChanges() {
        Heads x = Check.lexicon("a:5,b:40");
        x.set(0, 5);
        x.read();
        x.change(0, 0);
        x.drop(2);
        x.join(0);
        x.rename(0);
        x.restore(0);
        x.put('a');
        x.fault();
        x.find();
        x.lookFor();
        x.ifSet(0, 6);
        x.leastLines(2);
        x.bestLines(0);
        x.save(1);
        x.wipe();
        Check.due("count(14)", x.count(14), 1);
        Check.due("undo()", x.undo(), 0);
        Check.due("entries", x.count(3), 0);
    }

    private static void notThePadNorTheSlots() {
        Heads x = Check.lexicon("a:5");
        x.save(0);
        x.change(0, 7);
        x.save(1);
        Check.pad(x, "b:1");
        Check.due("undo()", x.undo(), 1);
        Check.due("the length of the pad", x.count(13), 3);
        Check.due("undo()", x.undo(), 0);
        Check.due("restore(1)", x.restore(1), 1);
        Check.text("the state", Check.state(x), "12 12 2 a:7");
        Check.due("restore(0)", x.restore(0), 1);
        Check.text("the state", Check.state(x), "12 12 2 a:5");
        Check.due("read()", x.read(), 2);
        Check.due("undo()", x.undo(), 2);
        Check.due("the pad stays empty", x.count(13), 0);
    }
}
