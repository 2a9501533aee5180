/** Promises 14 to 16: the what-ifs. */
final class Edges14To16 extends Edges {
    static void all() {
        part("Promise 14: ifSet");
        ifSet();
        ifSetErrors();
        part("Promise 15: leastLines");
        leastLines();
        leastLinesErrors();
        part("Promise 16: bestLines");
        bestLines();
    }

    private static void ifSet() {
        String sentence = "Tells how many pages there would be with another setting.";
        edge(sentence, "the least and the largest LINES: 40 lines on 5, 39 and 38 a page", () -> {
            due("ifSet(LINES, 6)", lexicon("a:40").ifSet(LINES, 6), 8);
            due("ifSet(LINES, 40)", lexicon("a:40").ifSet(LINES, 40), 2);
            due("ifSet(LINES, 40)", lexicon("a:39").ifSet(LINES, 40), 1);
            due("ifSet(LINES, 40), WIDTH 4", lexicon(12, 4, 2, "abcde:39").ifSet(LINES, 40), 2);
            due("ifSet(LINES, 40), WIDTH 4", lexicon(12, 4, 2, "abcde:38").ifSet(LINES, 40), 1);
        });
        edge(sentence, "the least and the largest WIDTH: rooms for 4 and 5", () -> {
            due("ifSet(WIDTH, 4)", lexicon(6, 12, 1, "abcde:20").ifSet(WIDTH, 4), 5);
            due("ifSet(WIDTH, 5)", lexicon(6, 12, 1, "abcde:20").ifSet(WIDTH, 5), 4);
            due("ifSet(WIDTH, 30)", lexicon(6, 4, 1, "abcde:20").ifSet(WIDTH, 30), 4);
        });
        edge(sentence, "the least and the largest KEEP: 1 line and 5, or 6 that are not parted", () -> {
            due("ifSet(KEEP, 1)", lexicon(6, 12, 3, "a:4,b:6").ifSet(KEEP, 1), 2);
            due("ifSet(KEEP, 3)", lexicon(6, 12, 1, "a:4,b:6").ifSet(KEEP, 3), 3);
        });
        edge(sentence, "no entries, no pages", () -> {
            for (int setting = LINES; setting <= KEEP; setting++) {
                due("ifSet of the least", new Heads().ifSet(setting, LEAST[setting]), 0);
                due("ifSet of the largest", new Heads().ifSet(setting, MOST[setting]), 0);
            }
        });
        edge(sentence, "the most entries and pages", () -> {
            due("ifSet(LINES, 6)", Check.full().ifSet(LINES, 6), 300);
            due("ifSet(LINES, 40)", many(30, 39).ifSet(LINES, 40), 30);
        });
        edge(sentence, "the setting that there is: as many as now", () -> {
            Heads x = lexicon(7, 5, 3, "a:5,bb:8,ccccccc:40");
            for (int setting = LINES; setting <= KEEP; setting++) {
                due("ifSet of setting " + setting, x.ifSet(setting, x.count(setting)), x.count(4));
            }
        });
        edge("Returns the pages", "while none of them changes", () -> {
            Heads x = lexicon("a:40");
            due("ifSet(LINES, 6)", x.ifSet(LINES, 6), 8);
            due("count(4)", x.count(4), 4);
            due("count(0)", x.count(0), 12);
            due("page(3, 3)", x.page(3, 3), 7);
            due("page(4, 3)", x.page(4, 3), NO_SUCH);
            due("count(14)", x.count(14), 1);
        });
    }

    private static void ifSetErrors() {
        String sentence = "BAD_VALUE if there is no such setting, or value is out of its range.";
        edge(sentence, "one beside each end of each range", () -> {
            Heads x = lexicon("a:1");
            for (int setting = LINES; setting <= KEEP; setting++) {
                due("one less", x.ifSet(setting, LEAST[setting] - 1), BAD_VALUE);
                due("the least", x.ifSet(setting, LEAST[setting]), 1);
                due("the largest", x.ifSet(setting, MOST[setting]), 1);
                due("one more", x.ifSet(setting, MOST[setting] + 1), BAD_VALUE);
            }
        });
        edge(sentence, "settings -1 and 3, with values that others may have", () -> {
            Heads x = lexicon("a:1");
            for (int value = 1; value <= 40; value++) {
                due("ifSet(-1, " + value + ")", x.ifSet(-1, value), BAD_VALUE);
                due("ifSet(3, " + value + ")", x.ifSet(3, value), BAD_VALUE);
            }
        });
        edge(sentence, "the smallest and the largest int", () -> {
            for (int far : new int[] {LOW, HIGH}) {
                refused("ifSet(" + far + ", 6)", "", x -> x.ifSet(far, 6), BAD_VALUE);
                refused("ifSet(" + far + ", " + far + ")", "", x -> x.ifSet(far, far), BAD_VALUE);
                refused("ifSet(LINES, " + far + ")", "", x -> x.ifSet(LINES, far), BAD_VALUE);
                refused("ifSet(WIDTH, " + far + ")", "", x -> x.ifSet(WIDTH, far), BAD_VALUE);
                refused("ifSet(KEEP, " + far + ")", "", x -> x.ifSet(KEEP, far), BAD_VALUE);
            }
        });
    }

    /** 25 entries of 40 lines, which take 8 pages each with LINES 6, so 200; heads of one line. */
    private static Heads twoHundred() {
        Heads x = many(25, 40);
        due("set(LINES, 6)", x.set(LINES, 6), 12);
        due("count(4)", x.count(4), 200);
        return x;
    }

    private static void leastLines() {
        String sentence = "Finds the least LINES with which there are at most so many pages.";
        edge(sentence, "just so many pages, and one more than those", () -> {
            // 20 lines on 5, 7, 10 and 20 a page: 4, 3, 2 and 1 page.
            int[] want = {21, 11, 8, 6, 6};
            for (int pages = 1; pages <= 5; pages++) {
                due("leastLines(" + pages + ")", lexicon("a:20").leastLines(pages), want[pages - 1]);
            }
        });
        edge(sentence, "pages of which the LINES are neither the present ones nor hang on them", () -> {
            Heads x = lexicon("a:20");
            due("set(LINES, 40)", x.set(LINES, 40), 12);
            due("leastLines(1)", x.leastLines(1), 21);
            due("set(LINES, 6)", x.set(LINES, 6), 40);
            due("leastLines(1)", x.leastLines(1), 21);
            due("count(0)", x.count(0), 6);
        });
        String range = "`pages`: 1 to 200";
        edge(range, "1 and 0", () -> {
            due("leastLines(1)", lexicon("a:1").leastLines(1), 6);
            due("leastLines(0)", lexicon("a:1").leastLines(0), BAD_VALUE);
            due("leastLines(0) without entries", new Heads().leastLines(0), BAD_VALUE);
        });
        edge(range, "200, with just 200 pages and 201, and 201", () -> {
            Heads x = twoHundred();
            due("leastLines(200)", x.leastLines(200), 6);
            due("leastLines(199)", x.leastLines(199), 7);
            due("leastLines(201)", x.leastLines(201), BAD_VALUE);
            due("read()", withPad(x, "zz:1").read(), 26);
            due("pages", x.count(4), 201);
            due("leastLines(200)", x.leastLines(200), 7);
        });
        String lines = "Returns the lines, 6 to 40";
        edge(lines, "6: no entries, and what fits there", () -> {
            due("leastLines(1) without entries", new Heads().leastLines(1), 6);
            due("leastLines(200) without entries", new Heads().leastLines(200), 6);
            due("leastLines(1) of 5 lines", lexicon("a:5").leastLines(1), 6);
            due("leastLines(1) of 6 lines", lexicon("a:6").leastLines(1), 7);
        });
        edge(lines, "40: what only fits there", () -> {
            due("leastLines(1) of 38 lines", lexicon("a:38").leastLines(1), 39);
            due("leastLines(1) of 39 lines", lexicon("a:39").leastLines(1), 40);
            due("leastLines(2) of twice 39 lines", lexicon("a:39,b:39").leastLines(2), 40);
        });
        edge("NONE if there is none.", "a line more than fits with 40, and the most", () -> {
            due("leastLines(1) of 40 lines", lexicon("a:40").leastLines(1), NONE);
            due("leastLines(1) of 39 and 1 lines", lexicon("a:39,b:1").leastLines(1), NONE);
            due("leastLines(1), a head of two lines", lexicon(12, 4, 2, "abcde:38").leastLines(1), 40);
            due("leastLines(1), a head of two lines", lexicon(12, 4, 2, "abcde:39").leastLines(1), NONE);
            due("leastLines(2) of 40 lines", lexicon("a:40").leastLines(2), 21);
            due("leastLines(30) of 1200 lines", many(30, 40).leastLines(30), NONE);
        });
    }

    private static void leastLinesErrors() {
        edge("BAD_VALUE if pages is out of range", "0, 201, -1, and the smallest and the largest int", () -> {
            for (int pages : new int[] {0, 201, -1, LOW, HIGH}) {
                refused("leastLines(" + pages + ")", "", x -> x.leastLines(pages), BAD_VALUE);
                due("leastLines(" + pages + ") of too many lines", lexicon("a:40").leastLines(pages), BAD_VALUE);
            }
        });
    }

    private static void best(Heads x, int lines, int blank) {
        due("bestLines(0)", x.bestLines(0), lines);
        due("bestLines(1)", x.bestLines(1), blank);
    }

    private static void bestLines() {
        String sentence = "Finds the LINES with which the fewest lines of all pages are blank";
        edge(sentence, "the least LINES, and one more", () -> {
            best(lexicon("a:5"), 6, 0);
            best(lexicon("a:6"), 7, 0);
        });
        edge(sentence, "the largest LINES, and one less", () -> {
            // 39 lines would fill three times 13, but there b finds one line only and goes to the next page.
            best(lexicon("a:12,b:2,c:25"), 40, 0);
            // A prime number of lines: none but one page of 38 lines, its head counted, has no blank line.
            best(lexicon("a:37"), 38, 0);
            best(lexicon(12, 4, 2, "abcde:37"), 39, 0);
        });
        edge(sentence, "no LINES without blank ones", () -> {
            // 4 lines on 5; 41 lines, a prime number, on 7 times 6.
            best(lexicon("a:4"), 6, 1);
            best(lexicon("a:1"), 6, 4);
            best(lexicon("a:40,b:1"), 7, 1);
        });
        edge("of several the least", "20 lines on 5, 10 and 20 a page without a blank one", () -> {
            best(lexicon("a:20"), 6, 0);
            best(lexicon("a:14"), 8, 0);
            best(lexicon("a:39"), 14, 0);
        });
        edge("of several the least", "no entries: all of them have none", () -> best(new Heads(), 6, 0));
        edge("of several the least", "also if the present LINES have as few", () -> {
            Heads x = lexicon("a:20");
            due("set(LINES, 21)", x.set(LINES, 21), 12);
            due("count(7)", x.count(7), 0);
            best(x, 6, 0);
            due("count(0)", x.count(0), 21);
        });
        edge("0 LINES", "of the most entries", () -> due("bestLines(0)", many(30, 40).bestLines(0), 6));
        edge("1 the blank lines", "of the most entries", () -> due("bestLines(1)", many(30, 40).bestLines(1), 0));
        edge("BAD_VALUE if what is neither 0 nor 1.", "0 and 1, -1 and 2, and the smallest and the largest int", () -> {
            due("bestLines(0)", lexicon("a:4").bestLines(0), 6);
            due("bestLines(1)", lexicon("a:4").bestLines(1), 1);
            for (int what : new int[] {-1, 2, LOW, HIGH}) {
                refused("bestLines(" + what + ")", "", x -> x.bestLines(what), BAD_VALUE);
                due("bestLines(" + what + ") without entries", new Heads().bestLines(what), BAD_VALUE);
            }
        });
    }
}
