/** Terms, Heads: what they name, how many lines they take, and the passes. */
final class EdgesHeads extends Edges {
    // These go on so long with LINES 7, WIDTH 4 and KEEP 3: each pass or two put one page more in its place.
    private static final String CHAIN = "aaaaa:3,b:6,ccccc:6,d:6,eeeee:6,fffff:6,g:6,";
    private static final String TEN_PASSES = CHAIN + "hhhhh:8", ELEVEN_PASSES = CHAIN + "hhhhh:6";
    private static final String NINE_PASSES = "aaaaa:3,b:6,ccccc:6,d:6,eeeee:6,f:6,ggggg:1";

    static void all() {
        part("Heads");
        names();
        widths();
        firstPass();
        nextPasses();
        lastPass();
        whatHolds();
        settled();
    }

    private static void names() {
        String sentence = "A page names the first entry of which a line is on it, and the last one.";
        edge(sentence, "one line of the first, which began before, and one of the last, which goes on", () -> {
            Heads x = lexicon(12, 12, 1, "a:12,b:9,c:2");
            due("first of page 1", x.page(1, 0), 0);
            due("last of page 1", x.page(1, 1), 2);
            same("head of page 1", Check.head(x, 1), "a-c");
            due("first of page 2", x.page(2, 0), 2);
            due("last of page 2", x.page(2, 1), 2);
        });
        edge(sentence, "an entry that ends with the page before, and one that begins on the next page", () -> {
            Heads x = lexicon("a:11,b:11,c:11");
            due("first of page 1", x.page(1, 0), 1);
            due("last of page 1", x.page(1, 1), 1);
        });
        String head = "Its head is the word of the first one, and, if the last one is another, \"-\" and the word of the last one.";
        edge(head, "one entry, two, and three", () -> {
            same("head of one", Check.head(lexicon("ab:1"), 0), "ab");
            same("head of one on a later page", Check.head(lexicon("ab:40"), 1), "ab");
            same("head of two", Check.head(lexicon("ab:1,cd:1"), 0), "ab-cd");
            same("head of three", Check.head(lexicon("ab:1,cd:1,ef:1"), 0), "ab-ef");
        });
        edge(head, "the shortest words and the longest", () -> {
            same("head of one", Check.head(lexicon("a:1"), 0), "a");
            same("head of two", Check.head(lexicon("a:1,b:1"), 0), "a-b");
            same("head of one", Check.head(lexicon("abcdefg:1"), 0), "abcdefg");
            same("head of two", Check.head(lexicon("abcdefg:1,tuvwxyz:1"), 0), "abcdefg-tuvwxyz");
        });
    }

    private static void widths() {
        String sentence = "A head takes 1 line if it has at most WIDTH characters, otherwise 2.";
        edge(sentence, "just WIDTH, and one more, of one word", () -> {
            for (int letters = 4; letters <= 7; letters++) {
                String text = "abcdefg".substring(0, letters) + ":1";
                due("lines of the head " + text, lexicon(12, letters, 2, text).page(0, 5), 1);
                if (letters > 4) {
                    due("lines of the head " + text, lexicon(12, letters - 1, 2, text).page(0, 5), 2);
                }
            }
        });
        edge(sentence, "just WIDTH, and one more, of two words", () -> {
            due("lines of the head of 15, WIDTH 15", lexicon(12, 15, 2, "abcdefg:1,tuvwxyz:1").page(0, 5), 1);
            due("lines of the head of 15, WIDTH 14", lexicon(12, 14, 2, "abcdefg:1,tuvwxyz:1").page(0, 5), 2);
            due("lines of the head of 9, WIDTH 9", lexicon(12, 9, 2, "abcdefg:1,t:1").page(0, 5), 1);
            due("lines of the head of 9, WIDTH 8", lexicon(12, 8, 2, "abcdefg:1,t:1").page(0, 5), 2);
        });
        edge(sentence, "never more than 2: 15 characters, WIDTH 4", () -> {
            Heads x = lexicon(6, 4, 2, "abcdefg:1,tuvwxyz:1");
            due("lines of the head", x.page(0, 5), 2);
            due("blank lines", x.page(0, 4), 2);
        });
        edge(sentence, "the largest WIDTH: all heads take 1", () ->
            due("lines of the head", lexicon(6, 30, 2, "abcdefg:1,tuvwxyz:1").page(0, 5), 1));
    }

    private static void firstPass() {
        String sentence = "in the first pass each head takes 1 line";
        // With one line a, bbbb and c are on page 0, and a-c just fits. With two lines there would only be a and
        // bbbb, of which the head takes two lines: that would settle, too.
        edge(sentence, "a lexicon that would settle otherwise with heads of two lines", () -> {
            Heads x = lexicon(6, 4, 1, "a:3,bbbb:1,c:1");
            due("passes", x.count(8), 1);
            due("pages", x.count(4), 1);
            row("page 0", Check.pageRow(x, 0), 0, 2, 3, 5, 0, 1);
        });
        edge(sentence, "the heads of the pages before a change are forgotten", () -> {
            Heads x = lexicon(6, 4, 1, "a:3,bbbb:1");
            due("lines of the head ahead of it", x.page(0, 5), 2);
            due("read()", withPad(x, "c:1").read(), 3);
            due("passes", x.count(8), 1);
            row("page 0", Check.pageRow(x, 0), 0, 2, 3, 5, 0, 1);
        });
        edge(sentence, "the heads of a what-if are forgotten, too", () -> {
            Heads x = lexicon(6, 4, 1, "a:3,bbbb:1");
            due("ifSet(LINES, 7)", x.ifSet(LINES, 7), 1);
            due("read()", withPad(x, "c:1").read(), 3);
            due("ifSet(LINES, 6)", x.ifSet(LINES, 6), 1);
            due("pages", x.count(4), 1);
        });
    }

    private static void nextPasses() {
        String sentence = "In each other pass each page's head takes as many lines as its head behind the pass before it would"
            + " take";
        edge(sentence, "a head that is too wide in pass 1 takes two lines in pass 2", () -> {
            Heads x = lexicon(12, 7, 2, "abcde:5,bc:3");
            due("passes", x.count(8), 2);
            row("page 0", Check.pageRow(x, 0), 0, 1, 2, 8, 2, 2);
        });
        edge(sentence, "a head that is no longer too wide in pass 2 takes one line in pass 3", () -> {
            // Pass 1: aaaa-b and b are on the pages 0 and 1. Pass 2: aaaa and all of b. In pass 3 the head aaaa takes one
            // line again; b finds one line, and so on until the tenth pass, which is as the second one.
            Heads x = lexicon(6, 4, 1, "aaaa:4,b:5");
            due("passes", x.count(8), 10);
            row("page 0", Check.pageRow(x, 0), 0, 0, 1, 4, 0, 2);
            row("page 1", Check.pageRow(x, 1), 1, 1, 1, 5, 0, 1);
        });
        String noPage = "(1 for a page that there was not)";
        edge(noPage, "a page that comes with pass 2, and takes two lines in pass 3", () -> {
            Heads x = lexicon(6, 4, 3, "abcde:5");
            due("passes", x.count(8), 3);
            due("lines of the head of page 1", x.page(1, 5), 2);
        });
        edge(noPage, "a page that there was in pass 8, not in pass 9, and is again in pass 10", () -> {
            // Odd passes have three pages, ax, ax-bxxxx and bxxxx; even ones four, of which the last has the head bxxxx.
            Heads x = lexicon(7, 4, 3, "ax:8,bxxxx:8");
            due("passes", x.count(8), 10);
            due("pages", x.count(4), 4);
            row("page 2", Check.pageRow(x, 2), 1, 1, 1, 5, 0, 2);
            row("page 3", Check.pageRow(x, 3), 1, 1, 0, 3, 3, 1);
        });
    }

    private static void lastPass() {
        String sentence = "The passes end when each page's head would take just as many lines as it took in the pass";
        edge(sentence, "with the first one, the second, the third and the ninth", () -> {
            due("passes, all heads of one line", lexicon("a:40,b:40").count(8), 1);
            due("passes, a head of two lines and no page more", lexicon(12, 4, 2, "abcde:1").count(8), 2);
            due("passes, a head of two lines and a page more", lexicon(6, 4, 3, "abcde:5").count(8), 3);
            Heads x = lexicon(7, 4, 3, NINE_PASSES);
            due("passes", x.count(8), 9);
            due("settled", x.count(9), 1);
        });
        edge(sentence, "the last page's head alone differs", () -> {
            Heads x = lexicon(12, 4, 2, "a:11,bcdef:1");
            due("passes", x.count(8), 2);
            due("lines of the head of page 1", x.page(1, 5), 2);
        });
        edge("(without entries with the first one)", "a new object, and one of which all entries are dropped", () -> {
            due("passes", new Heads().count(8), 1);
            Heads x = lexicon(7, 4, 3, "ax:8,bx:9");
            due("passes ahead of it", x.count(8), 10);
            due("drop(0)", x.drop(0), 8);
            due("drop(0)", x.drop(0), 9);
            due("passes", x.count(8), 1);
            due("settled", x.count(9), 1);
        });
        String tenth = "or with the tenth one";
        edge(tenth, "passes that end with the tenth one of themselves", () -> {
            Heads x = lexicon(7, 4, 3, TEN_PASSES);
            due("passes", x.count(8), 10);
            due("settled", x.count(9), 1);
            row("page 10", Check.pageRow(x, 10), 7, 7, 1, 5, 0, 2);
            row("page 11", Check.pageRow(x, 11), 7, 7, 0, 3, 2, 2);
        });
        edge(tenth, "passes that would end with the eleventh one", () -> {
            Heads x = lexicon(7, 4, 3, ELEVEN_PASSES);
            due("passes", x.count(8), 10);
            due("settled", x.count(9), 0);
            row("page 10", Check.pageRow(x, 10), 7, 7, 1, 3, 2, 2);
            row("page 11, of which the head would take two", Check.pageRow(x, 11), 7, 7, 0, 3, 3, 1);
        });
        edge(tenth, "passes that would never end", () -> {
            Heads x = lexicon(7, 4, 3, "ax:8,bx:9");
            due("passes", x.count(8), 10);
            due("settled", x.count(9), 0);
        });
    }

    private static void whatHolds() {
        String sentence = "What the last one lays holds.";
        // Odd passes have the pages ax, ax-bx and bx; even ones ax, ax, bx and bx.
        edge(sentence, "pages, entries, folds and counts of a tenth pass that is not settled", () -> {
            Heads x = lexicon(7, 4, 3, "ax:8,bx:9");
            due("pages", x.count(4), 4);
            due("blank lines", x.count(7), 6);
            due("heads of two lines", x.count(12), 1);
            row("page 1", Check.pageRow(x, 1), 0, 0, 0, 3, 2, 2);
            same("head of page 1", Check.head(x, 1), "ax");
            row("bx", Check.entryRow(x, 1), 9, 2, 0, 3, 2);
            due("fold(0, false)", x.fold(0, false), 0);
            due("lookFor() b", withPad(x, "b").lookFor(), 2);
        });
        edge(sentence, "what-ifs with the same settings tell of the tenth pass, too", () -> {
            due("ifSet, the ninth pass has 11 pages", lexicon(7, 4, 3, ELEVEN_PASSES).ifSet(LINES, 7), 12);
            due("ifSet, odd passes have 3 pages", lexicon(7, 4, 3, "ax:8,bx:9").ifSet(KEEP, 3), 4);
        });
    }

    private static void settled() {
        String sentence = "It is settled, if its heads would take as many lines as they took.";
        edge(sentence, "the first pass, the tenth, and none of ten", () -> {
            due("count(9), no entries", new Heads().count(9), 1);
            due("count(9), one pass", lexicon("a:1").count(9), 1);
            due("count(9), ten passes", lexicon(7, 4, 3, TEN_PASSES).count(9), 1);
            due("count(9), eleven passes", lexicon(7, 4, 3, ELEVEN_PASSES).count(9), 0);
        });
        edge(sentence, "from not settled to settled and back", () -> {
            Heads x = lexicon(7, 4, 3, "ax:8,bx:9");
            due("count(9)", x.count(9), 0);
            due("set(WIDTH, 5)", x.set(WIDTH, 5), 4);
            due("count(9), as ax-bx fits", x.count(9), 1);
            due("count(8)", x.count(8), 1);
            due("undo()", x.undo(), 4);
            due("count(9)", x.count(9), 0);
        });
    }
}
