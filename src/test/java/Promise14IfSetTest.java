/** ifSet: the pages with another setting, while nothing changes. */
public final class Promise14IfSetTest {
    private static final int[] LOW = {6, 4, 1}, HIGH = {40, 30, 3};

    public static void main(String[] args) {
        pages();
        sameAsSet();
        errors();
        Check.end();
    }

    private static void pages() {
        Heads x = Check.lexicon("ab:20");
        String before = Check.all(x);
        Check.due("ifSet(LINES, 6)", x.ifSet(RunningHeads.LINES, 6), 4);
        Check.due("ifSet(LINES, 20)", x.ifSet(RunningHeads.LINES, 20), 2);
        Check.due("ifSet(LINES, 21)", x.ifSet(RunningHeads.LINES, 21), 1);
        Check.due("ifSet(LINES, 40)", x.ifSet(RunningHeads.LINES, 40), 1);
        // Lines fill 5 and 5 lines; or, with heads of two lines, 4, 4 and 2.
        x = Check.lexicon(6, 5, 1, "abcde:10");
        Check.due("ifSet(WIDTH, 5)", x.ifSet(RunningHeads.WIDTH, 5), 2);
        Check.due("ifSet(WIDTH, 4)", x.ifSet(RunningHeads.WIDTH, 4), 3);
        // Of b 1 line comes to page 0, and 5 on page 1; or all 6 to the pages 1 and 2.
        x = Check.lexicon(6, 30, 1, "a:4,b:6");
        Check.due("ifSet(KEEP, 1)", x.ifSet(RunningHeads.KEEP, 1), 2);
        Check.due("ifSet(KEEP, 2)", x.ifSet(RunningHeads.KEEP, 2), 3);
        Check.due("ifSet of none", new Heads().ifSet(RunningHeads.KEEP, 2), 0);
        Check.text("another one behind it", Check.all(Check.lexicon("ab:20")), before);
    }

    private static void sameAsSet() {
        for (int setting = 0; setting < 3; setting++) {
            for (int value = LOW[setting]; value <= HIGH[setting]; value++) {
                Heads x = Check.lexicon("abc:7,bbbbb:3,cd:12,d:1,effffff:9,z:5");
                String before = Check.all(x);
                int got = x.ifSet(setting, value);
                Check.text("all behind ifSet", Check.all(x), before);
                x.set(setting, value);
                Check.due("ifSet(" + setting + ", " + value + ")", got, x.count(4));
            }
        }
    }

    private static void errors() {
        Heads x = Check.lexicon("a:1");
        for (int setting = 0; setting < 3; setting++) {
            Check.due("ifSet below", x.ifSet(setting, LOW[setting] - 1), RunningHeads.BAD_VALUE);
            Check.due("ifSet above", x.ifSet(setting, HIGH[setting] + 1), RunningHeads.BAD_VALUE);
            for (int far : Check.FAR) {
                Check.due("ifSet far", x.ifSet(setting, far), RunningHeads.BAD_VALUE);
                Check.due("ifSet(" + far + ", 6)", x.ifSet(far, 6), RunningHeads.BAD_VALUE);
            }
        }
        Check.due("ifSet(-1, 6)", x.ifSet(-1, 6), RunningHeads.BAD_VALUE);
        Check.due("ifSet(3, 6)", x.ifSet(3, 6), RunningHeads.BAD_VALUE);
    }
}
