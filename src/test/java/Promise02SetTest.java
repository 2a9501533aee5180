/** set: a setting, its ranges, and the pages that change by it. */
public final class Promise02SetTest {
    private static final int[] LOW = {6, 4, 1}, HIGH = {40, 30, 3}, FIRST = {12, 12, 2};

    public static void main(String[] args) {
        for (int setting = 0; setting < 3; setting++) {
            ranges(setting);
        }
        noSuchSetting();
        pagesChange();
        isAChangeAlsoWithTheSameValue();
        Check.end();
    }

    private static void ranges(int setting) {
        Heads x = new Heads();
        String name = "set(" + setting + ", ..) ";
        Check.due(name + "below", x.set(setting, LOW[setting] - 1), RunningHeads.BAD_VALUE);
        Check.due(name + "above", x.set(setting, HIGH[setting] + 1), RunningHeads.BAD_VALUE);
        for (int value : Check.FAR) {
            Check.due(name + value, x.set(setting, value), RunningHeads.BAD_VALUE);
        }
        Check.text("the state behind errors", Check.state(x), "12 12 2 ");
        Check.due("count(14) behind errors", x.count(14), 0);
        Check.due(name + "lowest", x.set(setting, LOW[setting]), FIRST[setting]);
        Check.due(name + "highest", x.set(setting, HIGH[setting]), LOW[setting]);
        Check.due("count of the setting", x.count(setting), HIGH[setting]);
        for (int other = 0; other < 3; other++) {
            Check.due("count(" + other + ")", x.count(other), other == setting ? HIGH[other] : FIRST[other]);
        }
    }

    private static void noSuchSetting() {
        Heads x = new Heads();
        Check.due("set(-1, 6)", x.set(-1, 6), RunningHeads.BAD_VALUE);
        Check.due("set(3, 6)", x.set(3, 6), RunningHeads.BAD_VALUE);
        for (int setting : Check.FAR) {
            Check.due("set(" + setting + ", 6)", x.set(setting, 6), RunningHeads.BAD_VALUE);
        }
        Check.text("the state behind errors", Check.state(x), "12 12 2 ");
        Check.due("count(14) behind errors", x.count(14), 0);
    }

    private static void pagesChange() {
        Heads x = Check.lexicon("abcd:20");
        Check.due("pages of 11 lines", x.count(4), 2);
        x.set(RunningHeads.LINES, 6);
        Check.due("pages of 5 lines", x.count(4), 4);
        x.set(RunningHeads.WIDTH, 4);
        Check.due("heads of two lines", x.count(12), 0);
        x.set(RunningHeads.KEEP, 3);
        Check.due("pages that end on 5 lines", x.count(4), 4);
    }

    private static void isAChangeAlsoWithTheSameValue() {
        Heads x = new Heads();
        Check.due("set(1, 12)", x.set(1, 12), 12);
        Check.due("count(14)", x.count(14), 1);
        Check.due("undo()", x.undo(), 0);
    }
}
