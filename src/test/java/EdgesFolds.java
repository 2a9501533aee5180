/** Terms, Folds: their pages and names. */
final class EdgesFolds extends Edges {
    static void all() {
        part("Folds");
        pages();
        left();
        right();
    }

    private static void pages() {
        String sentence = "The pages 2 * k and 2 * k + 1 are the left and the right page of the fold k.";
        edge(sentence, "no page: no fold", () -> {
            due("count(5)", new Heads().count(5), 0);
            due("fold(0, true)", new Heads().fold(0, true), NO_SUCH);
        });
        edge(sentence, "one page, two, and three", () -> {
            due("count(5) of 1", lexicon("a:11").count(5), 1);
            due("count(5) of 2", lexicon("a:11,b:11").count(5), 1);
            due("count(5) of 3", lexicon("a:11,b:11,c:11").count(5), 2);
        });
        edge(sentence, "an entry on each of five pages", () -> {
            Heads x = lexicon("a:11,b:11,c:11,d:11,e:11");
            for (int page = 0; page < 5; page++) {
                due("the name on page " + page, x.fold(page / 2, page % 2 == 0), page);
            }
            due("no right page", x.fold(2, false), NONE);
        });
        edge(sentence, "the last of 150 folds", () -> {
            Heads x = Check.full();
            due("count(5)", x.count(5), 150);
            due("fold(149, true)", x.fold(149, true), 29);
            due("fold(149, false)", x.fold(149, false), 29);
            due("fold(150, true)", x.fold(150, true), NO_SUCH);
        });
    }

    private static void left() {
        String sentence = "The left name of a fold is the last entry that begins on its left page";
        edge(sentence, "one begins there, and three", () -> {
            due("of one", lexicon("a:1").fold(0, true), 0);
            due("of three", lexicon("a:1,b:1,c:1").fold(0, true), 2);
            due("of one that goes on", lexicon("a:5,b:8").fold(0, true), 1);
        });
        edge(sentence, "the one that begins last has only the last line of the page", () ->
            due("b", lexicon(12, 12, 1, "a:10,b:2").fold(0, true), 1));
        edge(sentence, "one that only ends there is not it", () -> {
            // Page 2 has the last two lines of b, and c behind them.
            due("fold(1, true)", lexicon("a:11,b:13,c:9").fold(1, true), 2);
            due("fold(1, true)", lexicon("a:11,b:13,c:1").fold(1, true), 2);
        });
        edge("or, if none does, the last one of which a line is on it", "a left page with an entry that goes on from before", () -> {
            due("fold(1, true)", lexicon("a:40").fold(1, true), 0);
            due("fold(1, true)", lexicon("a:11,b:13").fold(1, true), 1);
        });
    }

    private static void right() {
        String sentence = "The right name is the first entry that begins on its right page";
        edge(sentence, "the first line of the page begins one", () -> {
            due("of one", lexicon("a:11,b:1").fold(0, false), 1);
            due("of three", lexicon("a:11,b:1,c:1,d:1").fold(0, false), 1);
        });
        edge(sentence, "one goes on from before, and one or three begin", () -> {
            due("of one", lexicon("a:13,b:1").fold(0, false), 1);
            due("of three", lexicon("a:13,b:1,c:1,d:1").fold(0, false), 1);
        });
        edge(sentence, "it begins with the last line of the page", () ->
            due("b", lexicon(12, 12, 1, "a:21,b:2").fold(0, false), 1));
        edge("or, if none does, the first one of which a line is on it.", "an entry goes on from before, alone", () -> {
            due("fold(0, false)", lexicon("a:13").fold(0, false), 0);
            due("fold(0, false)", lexicon("a:9,b:13").fold(0, false), 1);
            due("fold(1, false)", lexicon("a:40").fold(1, false), 0);
        });
    }
}
