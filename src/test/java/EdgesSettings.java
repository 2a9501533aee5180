/** Terms, Settings: their ranges, first values, and what they are for. */
final class EdgesSettings extends Edges {
    static void all() {
        part("Settings");
        ranges(LINES, "LINES (6 to 40; 12)");
        ranges(WIDTH, "WIDTH (4 to 30; 12)");
        ranges(KEEP, "KEEP (1 to 3; 2)");
        use();
    }

    private static void ranges(int setting, String sentence) {
        int least = LEAST[setting];
        int most = MOST[setting];
        edge(sentence, "the first value", () -> {
            due("count(" + setting + ")", new Heads().count(setting), FIRST[setting]);
            due("set, which returns it", new Heads().set(setting, least), FIRST[setting]);
        });
        edge(sentence, "the least value, and one less", () -> {
            Heads x = new Heads();
            due("set of one less", x.set(setting, least - 1), BAD_VALUE);
            due("count(" + setting + ")", x.count(setting), FIRST[setting]);
            due("set of the least", x.set(setting, least), FIRST[setting]);
            due("count(" + setting + ")", x.count(setting), least);
            due("set of one less", x.set(setting, least - 1), BAD_VALUE);
            due("count(" + setting + ")", x.count(setting), least);
        });
        edge(sentence, "the largest value, and one more", () -> {
            Heads x = new Heads();
            due("set of one more", x.set(setting, most + 1), BAD_VALUE);
            due("count(" + setting + ")", x.count(setting), FIRST[setting]);
            due("set of the largest", x.set(setting, most), FIRST[setting]);
            due("count(" + setting + ")", x.count(setting), most);
            due("set of one more", x.set(setting, most + 1), BAD_VALUE);
            due("count(" + setting + ")", x.count(setting), most);
        });
        edge(sentence, "each value between them", () -> {
            Heads x = new Heads();
            due("set of the least", x.set(setting, least), FIRST[setting]);
            for (int value = least + 1; value <= most; value++) {
                due("set(" + setting + ", " + value + ")", x.set(setting, value), value - 1);
            }
        });
        edge(sentence, "0, -1, and the smallest and the largest int", () -> {
            Heads x = new Heads();
            for (int value : new int[] {0, -1, LOW, HIGH}) {
                due("set(" + setting + ", " + value + ")", x.set(setting, value), BAD_VALUE);
                due("ifSet(" + setting + ", " + value + ")", x.ifSet(setting, value), BAD_VALUE);
            }
            due("count(" + setting + ")", x.count(setting), FIRST[setting]);
        });
    }

    private static void use() {
        edge("lines of a page, its head counted", "the fewest lines hold 5 below a head of one, the most 39", () -> {
            due("pages of 5 lines", lexicon(6, 12, 2, "a:5").count(4), 1);
            due("pages of 6 lines", lexicon(6, 12, 2, "a:6").count(4), 2);
            due("pages of 39 lines", lexicon(40, 12, 2, "a:39").count(4), 1);
            due("pages of 40 lines", lexicon(40, 12, 2, "a:40").count(4), 2);
        });
        edge("characters", "a head of just WIDTH characters, the \"-\" among them, and one of one more", () -> {
            due("lines of the head abcd, WIDTH 4", lexicon(12, 4, 2, "abcd:5").page(0, 5), 1);
            due("lines of the head abcde, WIDTH 4", lexicon(12, 4, 2, "abcde:5").page(0, 5), 2);
            due("lines of the head a-bc, WIDTH 4", lexicon(12, 4, 2, "a:1,bc:1").page(0, 5), 1);
            due("lines of the head a-bcd, WIDTH 4", lexicon(12, 4, 2, "a:1,bcd:1").page(0, 5), 2);
        });
        edge("lines.", "KEEP lines on each side of a break, and one less", () -> {
            for (int keep = 1; keep <= 3; keep++) {
                String a = "a:" + (11 - keep);
                due("b, twice KEEP lines", lexicon(12, 12, keep, a + ",b:" + 2 * keep).entry(1, 1), 0);
                due("b, one line less", lexicon(12, 12, keep, a + ",b:" + (2 * keep - 1)).entry(1, 1), keep == 1 ? 0 : 1);
            }
        });
    }
}
