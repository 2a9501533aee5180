/** leastLines: the least LINES for so many pages. */
public final class Promise15LeastLinesTest {
    public static void main(String[] args) {
        // Rooms are LINES less 1; 20 lines go to 20, 10 + 10, 7 + 7 + 6, and 5 + 5 + 5 + 5.
        Heads x = Check.lexicon("ab:20");
        String before = Check.all(x);
        Check.due("leastLines(1)", x.leastLines(1), 21);
        Check.due("leastLines(2)", x.leastLines(2), 11);
        Check.due("leastLines(3)", x.leastLines(3), 8);
        Check.due("leastLines(4)", x.leastLines(4), 6);
        Check.due("leastLines(200)", x.leastLines(200), 6);
        Check.text("all behind them", Check.all(x), before);
        none();
        errors(x);
        Check.due("leastLines(1) without entries", new Heads().leastLines(1), 6);
        Check.end();
    }

    private static void none() {
        Heads x = Check.lexicon("a:38,b:1");
        Check.due("leastLines(1) of 39 lines", x.leastLines(1), 40);
        x.change(1, 2);
        Check.due("leastLines(1) of 40 lines", x.leastLines(1), RunningHeads.NONE);
        // The head a-b of three characters fits; heads of more than WIDTH take a line of the room.
        x = Check.lexicon(12, 4, 2, "aaa:38,b:1");
        Check.due("leastLines(1) with a head of two lines", x.leastLines(1), RunningHeads.NONE);
        x.change(0, 37);
        Check.due("leastLines(1) with one line less", x.leastLines(1), 40);
    }

    private static void errors(Heads x) {
        Check.due("leastLines(0)", x.leastLines(0), RunningHeads.BAD_VALUE);
        Check.due("leastLines(-1)", x.leastLines(-1), RunningHeads.BAD_VALUE);
        Check.due("leastLines(201)", x.leastLines(201), RunningHeads.BAD_VALUE);
        for (int far : Check.FAR) {
            Check.due("leastLines(" + far + ")", x.leastLines(far), RunningHeads.BAD_VALUE);
        }
    }
}
