/** Promises 8 to 13: the questions about entries and pages. */
final class Edges08To13 extends Edges {
    // Pages of 5 lines: a and b, b and c, c, c and d, d.
    private static final String FIVE_PAGES = "a:3,b:4,c:12,d:2";

    static void all() {
        part("Promise 8: entry");
        entryNumbers();
        entryLetters();
        entryErrors();
        part("Promise 9: page");
        pageNumbers();
        pageLines();
        pageHead();
        pageErrors();
        part("Promise 10: fold");
        fold();
        part("Promise 11: count");
        count();
        countOfPages();
        part("Promise 12: lookFor");
        lookFor();
        part("Promise 13: find");
        find();
    }

    private static Heads five() {
        return lexicon(6, 12, 1, FIVE_PAGES);
    }

    // ---- promise 8

    private static void entryNumbers() {
        edge("0 its lines", "1 and 40", () -> {
            due("entry(0, 0)", lexicon("a:1").entry(0, 0), 1);
            due("entry(0, 0)", lexicon("a:40").entry(0, 0), 40);
        });
        edge("1 the page on which it begins", "the first page, the second, and the last of 300", () -> {
            due("of the only one", lexicon("a:1").entry(0, 1), 0);
            due("of one that just fits", lexicon("a:10,b:1").entry(1, 1), 0);
            due("of one that does not", lexicon("a:11,b:1").entry(1, 1), 1);
            due("of the last of 30", Check.full().entry(29, 1), 290);
        });
        String line = "2 the line of that on which it begins (0 for the first one below the head)";
        edge(line, "the first and the last line of a page", () -> {
            due("the first line of the first page", lexicon("a:1").entry(0, 2), 0);
            due("the second line", lexicon("a:1,b:1").entry(1, 2), 1);
            due("the last line, LINES 12", lexicon("a:10,b:1").entry(1, 2), 10);
            due("the first line of the second page", lexicon("a:11,b:1").entry(1, 2), 0);
            due("the last line, LINES 40", lexicon(40, 12, 2, "a:38,b:1").entry(1, 2), 38);
        });
        edge(line, "0 also below a head of two lines", () -> {
            Heads x = lexicon(6, 4, 2, "abcde:3,f:1");
            due("lines of the head", x.page(0, 5), 2);
            due("of abcde", x.entry(0, 2), 0);
            due("of f, the last line", x.entry(1, 2), 3);
        });
        edge("3 the page on which it ends", "the page on which it begins, the next, and the last of 300", () -> {
            due("of one that just fits", lexicon("a:11").entry(0, 3), 0);
            due("of one that does not", lexicon("a:12").entry(0, 3), 1);
            due("of 22 lines", lexicon("a:22").entry(0, 3), 1);
            due("of the last of 30", Check.full().entry(29, 3), 299);
        });
        edge("4 how many pages have lines of it", "1, 2, and the most, 10", () -> {
            due("of one that just fits", lexicon("a:11").entry(0, 4), 1);
            due("of one that does not", lexicon("a:12").entry(0, 4), 2);
            due("of one behind others that just fits", lexicon("a:10,b:11").entry(1, 4), 1);
            due("of the first of 30", Check.full().entry(0, 4), 10);
            due("of the last of 30", Check.full().entry(29, 4), 10);
        });
    }

    private static void entryLetters() {
        edge("5 its letters, how many", "1 and 7", () -> {
            due("entry(0, 5)", lexicon("z:1").entry(0, 5), 1);
            due("entry(0, 5)", lexicon("zzzzzzz:1").entry(0, 5), 7);
        });
        edge("6 and more the codes of these", "the first and the last of seven, a and z", () -> {
            Heads x = lexicon("zbcdefa:1");
            int[] codes = {'z', 'b', 'c', 'd', 'e', 'f', 'a'};
            for (int letter = 0; letter < 7; letter++) {
                due("entry(0, " + (6 + letter) + ")", x.entry(0, 6 + letter), codes[letter]);
            }
        });
        edge("NONE if it has not so many letters.", "one behind the last, of one letter, of two, and of seven", () -> {
            due("entry(0, 7)", lexicon("z:1").entry(0, 7), NONE);
            due("entry(0, 7)", lexicon("zy:1").entry(0, 7), 'y');
            due("entry(0, 8)", lexicon("zy:1").entry(0, 8), NONE);
            due("entry(0, 12)", lexicon("zyxwvut:1").entry(0, 12), 't');
            due("entry(0, 13)", lexicon("zyxwvut:1").entry(0, 13), NONE);
        });
        edge("NONE if it has not so many letters.", "far behind the last, up to the largest int", () -> {
            Heads x = lexicon("zyxwvut:1");
            for (int what = 13; what <= 80; what++) {
                due("entry(0, " + what + ")", x.entry(0, what), NONE);
            }
            for (int what : new int[] {255, 256, 262, 1 << 30, HIGH - 1, HIGH}) {
                due("entry(0, " + what + ")", x.entry(0, what), NONE);
            }
        });
    }

    private static void entryErrors() {
        edge("NO_SUCH if there is no such entry", "the first and the last, and one beside them", () -> {
            Heads x = many(30, 1);
            due("entry(-1, 0)", x.entry(-1, 0), NO_SUCH);
            due("entry(0, 0)", x.entry(0, 0), 1);
            due("entry(29, 0)", x.entry(29, 0), 1);
            due("entry(30, 0)", x.entry(30, 0), NO_SUCH);
            due("drop(0)", x.drop(0), 1);
            due("entry(29, 0) of 29", x.entry(29, 0), NO_SUCH);
            due("entry(28, 0) of 29", x.entry(28, 0), 1);
        });
        edge("NO_SUCH if there is no such entry", "no entries, and the smallest and the largest int", () -> {
            for (int what = 0; what <= 13; what++) {
                due("entry(0, " + what + ") of none", new Heads().entry(0, what), NO_SUCH);
                due("entry(LOW, " + what + ")", lexicon("a:1").entry(LOW, what), NO_SUCH);
                due("entry(HIGH, " + what + ")", lexicon("a:1").entry(HIGH, what), NO_SUCH);
            }
        });
        edge("BAD_VALUE if what is below 0", "0, -1, and the smallest int", () -> {
            due("entry(0, 0)", lexicon("a:9").entry(0, 0), 9);
            due("entry(0, -1)", lexicon("a:9").entry(0, -1), BAD_VALUE);
            due("entry(0, LOW)", lexicon("a:9").entry(0, LOW), BAD_VALUE);
        });
    }

    // ---- promise 9

    private static void pageNumbers() {
        edge("0 the first entry of which a line is on it", "it begins there, or goes on from before with one line", () -> {
            due("page(0, 0)", five().page(0, 0), 0);
            due("page(1, 0)", five().page(1, 0), 1);
            due("page(4, 0)", five().page(4, 0), 3);
            due("page(1, 0)", lexicon(12, 12, 1, "a:12,b:1").page(1, 0), 0);
            due("page(1, 0)", lexicon("a:11,b:1").page(1, 0), 1);
        });
        edge("1 the last one", "it ends there, or goes on with one line", () -> {
            due("page(0, 1)", five().page(0, 1), 1);
            due("page(2, 1)", five().page(2, 1), 2);
            due("page(4, 1)", five().page(4, 1), 3);
            due("page(0, 1)", lexicon(12, 12, 1, "a:10,b:2").page(0, 1), 1);
            due("page(0, 1)", lexicon("a:11,b:1").page(0, 1), 0);
        });
        edge("2 how many entries begin on it", "none, one, and all 30", () -> {
            due("page(0, 2)", five().page(0, 2), 2);
            due("page(1, 2)", five().page(1, 2), 1);
            due("page(2, 2)", five().page(2, 2), 0);
            Heads x = many(30, 1);
            due("set(LINES, 40)", x.set(LINES, 40), 12);
            due("page(0, 2)", x.page(0, 2), 30);
        });
    }

    private static void pageLines() {
        edge("3 its lines with entries", "1, and the most, 39", () -> {
            due("page(0, 3)", lexicon("a:1").page(0, 3), 1);
            due("page(1, 3)", lexicon(12, 12, 1, "a:12").page(1, 3), 1);
            due("page(0, 3)", lexicon(40, 12, 2, "a:39").page(0, 3), 39);
        });
        edge("4 its blank lines", "none, and the most, 38; below a head of two lines", () -> {
            due("page(0, 4)", lexicon("a:11").page(0, 4), 0);
            due("page(0, 4)", lexicon(40, 12, 2, "a:1").page(0, 4), 38);
            due("page(0, 4)", lexicon(6, 4, 2, "abcde:4").page(0, 4), 0);
            due("page(0, 4)", lexicon(40, 4, 2, "abcde:1").page(0, 4), 37);
        });
        String head = "5 the lines of its head, as they were laid";
        edge(head, "1 and 2", () -> {
            due("page(0, 5)", lexicon(6, 4, 2, "abcd:4").page(0, 5), 1);
            due("page(0, 5)", lexicon(6, 4, 2, "abcde:4").page(0, 5), 2);
        });
        edge(head, "not settled: as they were laid, not as they would be", () -> {
            // The head ax, which took two lines, would take one; the head of hhhhh, which took one, would take two.
            due("page(1, 5)", lexicon(7, 4, 3, "ax:8,bx:9").page(1, 5), 2);
            due("page(1, 6)", lexicon(7, 4, 3, "ax:8,bx:9").page(1, 6), 2);
            Heads x = lexicon(7, 4, 3, "ax:8,bxxxx:8");
            due("page(3, 5)", x.page(3, 5), 1);
            due("page(3, 6)", x.page(3, 6), 5);
        });
    }

    private static void pageHead() {
        edge("6 how wide its head is: characters", "1, and the most, 15; more than WIDTH", () -> {
            due("page(0, 6)", lexicon("a:1").page(0, 6), 1);
            due("page(0, 6)", lexicon("a:1,b:1").page(0, 6), 3);
            due("page(0, 6)", lexicon("abcdefg:1,tuvwxyz:1").page(0, 6), 15);
            due("page(0, 6)", lexicon(6, 4, 2, "abcdefg:1,tuvwxyz:1").page(0, 6), 15);
        });
        edge("7 and more the codes of these", "the first and the last character, and those beside the \"-\"", () -> {
            Heads x = lexicon("abcdefg:1,tuvwxyz:1");
            due("page(0, 7)", x.page(0, 7), 'a');
            due("page(0, 13)", x.page(0, 13), 'g');
            due("page(0, 14)", x.page(0, 14), '-');
            due("page(0, 15)", x.page(0, 15), 't');
            due("page(0, 21)", x.page(0, 21), 'z');
            x = lexicon("z:1");
            due("page(0, 7)", x.page(0, 7), 'z');
        });
        String none = "NONE if its head has not so many characters.";
        edge(none, "one behind the last, of one word and of two", () -> {
            due("page(0, 8)", lexicon("z:1").page(0, 8), NONE);
            due("page(0, 14)", lexicon("abcdefg:1").page(0, 14), NONE);
            due("page(0, 10)", lexicon("a:1,b:1").page(0, 10), NONE);
            due("page(0, 22)", lexicon("abcdefg:1,tuvwxyz:1").page(0, 22), NONE);
        });
        edge(none, "far behind the last, up to the largest int", () -> {
            Heads x = lexicon("abcdefg:1,tuvwxyz:1");
            Heads y = lexicon("a:1");
            for (int what = 22; what <= 90; what++) {
                due("page(0, " + what + ")", x.page(0, what), NONE);
                due("page(0, " + what + ") of one letter", y.page(0, what), NONE);
            }
            for (int what : new int[] {255, 256, 263, 1 << 30, HIGH - 1, HIGH}) {
                due("page(0, " + what + ")", x.page(0, what), NONE);
                due("page(0, " + what + ") of one letter", y.page(0, what), NONE);
            }
        });
    }

    private static void pageErrors() {
        edge("NO_SUCH if there is no such page", "the first and the last, and one beside them", () -> {
            Heads x = five();
            due("page(-1, 0)", x.page(-1, 0), NO_SUCH);
            due("page(0, 0)", x.page(0, 0), 0);
            due("page(4, 0)", x.page(4, 0), 3);
            due("page(5, 0)", x.page(5, 0), NO_SUCH);
            due("page(299, 0) of 300", Check.full().page(299, 0), 29);
            due("page(300, 0) of 300", Check.full().page(300, 0), NO_SUCH);
        });
        edge("NO_SUCH if there is no such page", "a page that there was", () -> {
            Heads x = five();
            due("drop(3)", x.drop(3), 2);
            due("page(4, 0)", x.page(4, 0), NO_SUCH);
            due("page(3, 0)", x.page(3, 0), 2);
            due("undo()", x.undo(), 4);
            due("page(4, 0)", x.page(4, 0), 3);
        });
        edge("NO_SUCH if there is no such page", "no pages, and the smallest and the largest int", () -> {
            for (int what = 0; what <= 22; what++) {
                due("page(0, " + what + ") of none", new Heads().page(0, what), NO_SUCH);
                due("page(LOW, " + what + ")", lexicon("a:1").page(LOW, what), NO_SUCH);
                due("page(HIGH, " + what + ")", lexicon("a:1").page(HIGH, what), NO_SUCH);
            }
        });
        edge("BAD_VALUE if what is below 0", "0, -1, and the smallest int", () -> {
            due("page(4, 0)", five().page(4, 0), 3);
            due("page(4, -1)", five().page(4, -1), BAD_VALUE);
            due("page(4, LOW)", five().page(4, LOW), BAD_VALUE);
        });
    }

    // ---- promise 10

    private static void fold() {
        edge("NO_SUCH if there is no such fold", "the first and the last, and one beside them, left and right", () -> {
            Heads x = five();
            for (boolean isLeft : new boolean[] {true, false}) {
                due("fold(-1, " + isLeft + ")", x.fold(-1, isLeft), NO_SUCH);
                due("fold(0, " + isLeft + ")", x.fold(0, isLeft), isLeft ? 1 : 2);
                due("fold(2, " + isLeft + ")", x.fold(2, isLeft), isLeft ? 3 : NONE);
                due("fold(3, " + isLeft + ")", x.fold(3, isLeft), NO_SUCH);
            }
        });
        edge("NO_SUCH if there is no such fold", "no folds", () -> {
            due("fold(0, true)", new Heads().fold(0, true), NO_SUCH);
            due("fold(0, false)", new Heads().fold(0, false), NO_SUCH);
        });
        edge("NO_SUCH if there is no such fold", "ints of which twice wraps around to a page", () -> {
            Heads x = five();
            for (int fold : new int[] {LOW, LOW + 1, 1 << 30, (1 << 30) + 1, -(1 << 30), HIGH, HIGH - 1}) {
                due("fold(" + fold + ", true)", x.fold(fold, true), NO_SUCH);
                due("fold(" + fold + ", false)", x.fold(fold, false), NO_SUCH);
            }
        });
        String none = "NONE for the right name, if there is no right page.";
        edge(none, "one page and two, three and four", () -> {
            due("of one page", lexicon("a:11").fold(0, false), NONE);
            due("of two pages", lexicon("a:11,b:1").fold(0, false), 1);
            due("of three pages", lexicon("a:11,b:11,c:11").fold(1, false), NONE);
            due("of four pages", lexicon("a:11,b:11,c:11,d:1").fold(1, false), 3);
            due("the left one of three pages", lexicon("a:11,b:11,c:11").fold(1, true), 2);
        });
        edge(none, "a right page that there was", () -> {
            Heads x = lexicon("a:11,b:1");
            due("drop(1)", x.drop(1), 1);
            due("fold(0, false)", x.fold(0, false), NONE);
        });
        edge("Returns the left or the right name of a fold.", "each by its own flag", () -> {
            Heads x = lexicon("a:5,b:6,c:5,d:6");
            due("fold(0, true), the last one on page 0", x.fold(0, true), 1);
            due("fold(0, false), the first one on page 1", x.fold(0, false), 2);
        });
    }

    // ---- promise 11

    private static void count() {
        edge("BAD_VALUE if what is out of range.", "0 and 14, -1 and 15, the smallest and the largest int", () -> {
            Heads x = five();
            due("count(-1)", x.count(-1), BAD_VALUE);
            due("count(0)", x.count(0), 6);
            due("count(14)", x.count(14), 4);
            due("count(15)", x.count(15), BAD_VALUE);
            due("count(16)", x.count(16), BAD_VALUE);
            due("count(LOW)", x.count(LOW), BAD_VALUE);
            due("count(HIGH)", x.count(HIGH), BAD_VALUE);
        });
        edge("0 to 2 the settings", "the least and the largest", () -> {
            for (int setting = LINES; setting <= KEEP; setting++) {
                Heads x = new Heads();
                due("set of the least", x.set(setting, LEAST[setting]), FIRST[setting]);
                due("count(" + setting + ")", x.count(setting), LEAST[setting]);
                due("set of the largest", x.set(setting, MOST[setting]), LEAST[setting]);
                due("count(" + setting + ")", x.count(setting), MOST[setting]);
            }
        });
        edge("3 entries", "0, 1 and 30", () -> {
            due("count(3)", new Heads().count(3), 0);
            due("count(3)", lexicon("a:1").count(3), 1);
            due("count(3)", many(30, 1).count(3), 30);
        });
        edge("6 lines of all entries", "0, 1, and the most, 1200", () -> {
            due("count(6)", new Heads().count(6), 0);
            due("count(6)", lexicon("a:1").count(6), 1);
            due("count(6)", many(30, 40).count(6), 1200);
        });
        edge("13 the length of the pad", "0, 1 and 60", () -> {
            due("count(13)", new Heads().count(13), 0);
            due("count(13)", padOnly("!").count(13), 1);
            Heads x = new Heads();
            for (int length = 1; length <= 60; length++) {
                due("put", x.put('~'), length);
            }
            due("count(13)", x.count(13), 60);
        });
        edge("14 how many changes can be undone", "0, 1, 6, and 6 of 7", () -> {
            Heads x = new Heads();
            due("count(14)", x.count(14), 0);
            for (int change = 1; change <= 7; change++) {
                due("set(KEEP, 2)", x.set(KEEP, 2), 2);
                due("count(14)", x.count(14), Math.min(6, change));
            }
            due("undo()", x.undo(), 5);
            due("count(14)", x.count(14), 5);
        });
    }

    private static void countOfPages() {
        edge("4 pages", "0, 1, 2, and the most, 300", () -> {
            due("count(4)", new Heads().count(4), 0);
            due("count(4)", lexicon("a:11").count(4), 1);
            due("count(4)", lexicon("a:12").count(4), 2);
            due("count(4)", Check.full().count(4), 300);
        });
        edge("5 folds", "0; 1 of one page and of two; 2 of three", () -> {
            due("count(5)", new Heads().count(5), 0);
            due("count(5)", lexicon("a:11").count(5), 1);
            due("count(5)", lexicon("a:22").count(5), 1);
            due("count(5)", lexicon("a:33").count(5), 2);
        });
        edge("7 blank lines of all pages", "none, of one page, and of several; those of the last page, too", () -> {
            due("count(7)", new Heads().count(7), 0);
            due("count(7)", lexicon("a:11,b:11").count(7), 0);
            due("count(7)", lexicon(40, 12, 2, "a:1").count(7), 38);
            due("count(7)", lexicon("a:10,b:11,c:1").count(7), 1 + 0 + 10);
            due("count(7), a head of two lines", lexicon(6, 4, 2, "abcde:3").count(7), 1);
        });
        edge("8 passes", "1 and 10", () -> {
            due("count(8)", new Heads().count(8), 1);
            due("count(8)", lexicon("a:1").count(8), 1);
            due("count(8)", lexicon(7, 4, 3, "ax:8,bx:9").count(8), 10);
        });
        edge("9 whether it is settled (1 or 0)", "both", () -> {
            due("count(9)", new Heads().count(9), 1);
            due("count(9)", lexicon(6, 4, 3, "abcde:5").count(9), 1);
            due("count(9)", lexicon(7, 4, 3, "ax:8,bx:9").count(9), 0);
        });
        edge("10 pages on which no entry begins", "none, one, and nearly all", () -> {
            due("count(10)", new Heads().count(10), 0);
            due("count(10)", lexicon("a:11,b:11").count(10), 0);
            due("count(10)", lexicon("a:12,b:1").count(10), 0);
            due("count(10)", lexicon("a:12").count(10), 1);
            due("count(10)", Check.full().count(10), 270);
        });
        edge("11 entries that are on more than one page", "none, one of two pages, and all 30", () -> {
            due("count(11)", new Heads().count(11), 0);
            due("count(11)", lexicon("a:11,b:11").count(11), 0);
            due("count(11)", lexicon("a:11,b:12").count(11), 1);
            due("count(11)", Check.full().count(11), 30);
        });
        edge("12 heads of two lines, as they were laid", "none, one, and all; not settled", () -> {
            due("count(12)", new Heads().count(12), 0);
            due("count(12)", lexicon(12, 4, 2, "abcd:10,ef:10").count(12), 0);
            due("count(12)", lexicon(12, 4, 2, "abcde:10,ef:10").count(12), 1);
            due("count(12)", Check.full().count(12), 300);
            due("count(12), of which the head would take one", lexicon(7, 4, 3, "ax:8,bx:9").count(12), 1);
        });
    }

    // ---- promise 12

    private static void look(String word, int want) {
        due("lookFor() " + word, withPad(five(), word).lookFor(), want);
    }

    private static void lookFor() {
        String first = "finds the first page whose last entry has a word that is not ahead of it";
        edge(first, "a word ahead of all, and of one letter and seven", () -> {
            look("a", 0);
            look("aaaaaaa", 0);
            due("lookFor() a, ahead of all", withPad(lexicon("b:11,c:11"), "a").lookFor(), 0);
        });
        edge(first, "the word of the last entry of a page, and one just behind it", () -> {
            look("b", 0);
            look("ba", 1);
            look("c", 1);
            look("ca", 3);
            look("d", 3);
        });
        edge(first, "a word that the last entry's word begins with, and one that begins with it", () -> {
            due("lookFor() m", withPad(lexicon("mm:11,mmm:11"), "m").lookFor(), 0);
            due("lookFor() mm", withPad(lexicon("mm:11,mmm:11"), "mm").lookFor(), 0);
            due("lookFor() mma", withPad(lexicon("mm:11,mmm:11"), "mma").lookFor(), 1);
        });
        edge("if there is none, the last page", "a word behind all, of one page, of five, and of 300", () -> {
            look("da", 4);
            look("zzzzzzz", 4);
            due("of one page", withPad(lexicon("a:1"), "b").lookFor(), 0);
            due("of 300 pages", withPad(Check.full(), "zzzzzzz").lookFor(), 299);
        });
        edge("NONE if there are no pages.", "from the first, and when all is dropped", () -> {
            due("lookFor()", padOnly("a").lookFor(), NONE);
            Heads x = lexicon("a:1");
            due("drop(0)", x.drop(0), 1);
            due("lookFor()", withPad(x, "a").lookFor(), NONE);
        });
        edge("BAD_TEXT if the pad is not one to seven letters a to z", "none, eight, and other signs, with pages and without", () -> {
            for (String text : NO_WORDS) {
                due("lookFor() of \"" + text + "\"", withPad(five(), text).lookFor(), BAD_TEXT);
                due("lookFor() of \"" + text + "\" without pages", padOnly(text).lookFor(), BAD_TEXT);
            }
        });
        edge("Looks for the word of the pad by heads", "the pad stays", () -> {
            Heads x = withPad(five(), "c");
            due("lookFor()", x.lookFor(), 1);
            due("lookFor() again", x.lookFor(), 1);
            due("count(13)", x.count(13), 1);
        });
    }

    // ---- promise 13

    private static void find() {
        String sentence = "Finds the entry of the word of the pad.";
        edge(sentence, "the first and the last, of one letter and of seven", () -> {
            due("find() of the first", withPad(many(30, 1), "a").find(), 0);
            due("find() of the last", withPad(many(30, 1), "zd").find(), 29);
            due("find() of seven letters", withPad(lexicon("a:1,bcdefgh:1"), "bcdefgh").find(), 1);
        });
        edge(sentence, "the pad stays", () -> {
            Heads x = withPad(five(), "c");
            due("find()", x.find(), 2);
            due("find() again", x.find(), 2);
            due("count(13)", x.count(13), 1);
        });
        String none = "NONE if there is none.";
        edge(none, "no entries", () -> due("find()", padOnly("a").find(), NONE));
        edge(none, "ahead of all, behind all, between two", () -> {
            for (String word : new String[] {"a", "c", "e", "zzzzzzz"}) {
                due("find() " + word, withPad(lexicon("b:1,d:1"), word).find(), NONE);
            }
        });
        edge(none, "a word that an entry's word begins with, and one that begins with it", () -> {
            due("find() bc", withPad(lexicon("bcd:1"), "bc").find(), NONE);
            due("find() bcda", withPad(lexicon("bcd:1"), "bcda").find(), NONE);
            due("find() abcdef", withPad(lexicon("abcdefg:1"), "abcdef").find(), NONE);
        });
        edge(none, "an entry that was dropped, joined or renamed", () -> {
            Heads x = lexicon("a:1,b:1,c:1,d:1");
            due("drop(0)", x.drop(0), 1);
            due("join(0)", x.join(0), 2);
            due("rename(1)", withPad(x, "e").rename(1), 1);
            due("find() a", withPad(x, "a").find(), NONE);
            due("find() c", withPad(x, "c").find(), NONE);
            due("find() d", withPad(x, "d").find(), NONE);
        });
        edge("BAD_TEXT if the pad is not one to seven letters a to z", "none, eight, and other signs", () -> {
            for (String text : NO_WORDS) {
                due("find() of \"" + text + "\"", withPad(five(), text).find(), BAD_TEXT);
                due("find() of \"" + text + "\" without entries", padOnly(text).find(), BAD_TEXT);
            }
        });
    }
}
