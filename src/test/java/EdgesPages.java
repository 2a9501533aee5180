/**
 * Terms, Pages: the rules by which entries are laid. Without other words a page has 12 lines and a head of one,
 * so a room of 11, and KEEP is 2. What 0 to 4 of an entry: lines, page and line of its begin, page of its end,
 * pages; what 0 to 5 of a page: first and last entry, begun ones, lines, blank lines, lines of its head.
 */
final class EdgesPages extends Edges {
    static void all() {
        part("Pages");
        pagesAndRoom();
        firstThatFits();
        wholeOnThePage();
        parted();
        keptTogether();
        nextPage();
        tooLongForAnEmptyPage();
        pageOfNow();
        howMany();
    }

    private static void pagesAndRoom() {
        edge("numbered from 0, one behind the other", "the first, the last, and none beside them", () -> {
            Heads x = lexicon("a:11,b:11,c:11");
            due("page(-1, 0)", x.page(-1, 0), NO_SUCH);
            due("page(0, 0)", x.page(0, 0), 0);
            due("page(1, 0)", x.page(1, 0), 1);
            due("page(2, 0)", x.page(2, 0), 2);
            due("page(3, 0)", x.page(3, 0), NO_SUCH);
        });
        String room = "A page has LINES lines, less those of its head, 1 or 2; these are its room.";
        edge(room, "LINES 6, a head of one line: room for 5", () -> {
            row("page 0 of 5", Check.pageRow(lexicon(6, 4, 2, "abcd:5"), 0), 0, 0, 1, 5, 0, 1);
            row("page 0 of 7", Check.pageRow(lexicon(6, 4, 2, "abcd:7"), 0), 0, 0, 1, 5, 0, 1);
            due("pages of 6", lexicon(6, 4, 2, "abcd:6").count(4), 2);
        });
        edge(room, "LINES 6, a head of two lines: room for 4", () -> {
            row("page 0 of 4", Check.pageRow(lexicon(6, 4, 2, "abcde:4"), 0), 0, 0, 1, 4, 0, 2);
            row("page 0 of 6", Check.pageRow(lexicon(6, 4, 2, "abcde:6"), 0), 0, 0, 1, 4, 0, 2);
            due("pages of 5", lexicon(6, 4, 2, "abcde:5").count(4), 2);
        });
        edge(room, "LINES 40, a head of one line: room for 39", () -> {
            row("page 0 of 39", Check.pageRow(lexicon(40, 4, 1, "abcd:39"), 0), 0, 0, 1, 39, 0, 1);
            row("page 0 of 40", Check.pageRow(lexicon(40, 4, 1, "abcd:40"), 0), 0, 0, 1, 39, 0, 1);
        });
        edge(room, "LINES 40, a head of two lines: room for 38", () -> {
            row("page 0 of 38", Check.pageRow(lexicon(40, 4, 1, "abcde:38"), 0), 0, 0, 1, 38, 0, 2);
            row("page 0 of 39", Check.pageRow(lexicon(40, 4, 1, "abcde:39"), 0), 0, 0, 1, 38, 0, 2);
        });
    }

    private static void firstThatFits() {
        String sentence = "the first of these that fits is done";
        edge(sentence, "rule 1, though 2 to 4 would fit behind it", () ->
            row("b, 4 lines of room for 4", Check.entryRow(lexicon("a:7,b:4"), 1), 4, 0, 7, 0, 1));
        edge(sentence, "rule 2, though 3 and 4 would fit behind it", () -> {
            row("b, 6 and 3", Check.entryRow(lexicon("a:5,b:9,c:8"), 1), 9, 0, 5, 1, 2);
            row("page 0", Check.pageRow(lexicon("a:5,b:9,c:8"), 0), 0, 1, 2, 11, 0, 1);
            row("page 1", Check.pageRow(lexicon("a:5,b:9,c:8"), 1), 1, 2, 1, 11, 0, 1);
        });
        edge(sentence, "rule 3, though 4 would fit behind it", () -> {
            row("b, 5 and 2", Check.entryRow(lexicon("a:5,b:7,c:9"), 1), 7, 0, 5, 1, 2);
            row("page 0", Check.pageRow(lexicon("a:5,b:7,c:9"), 0), 0, 1, 2, 10, 1, 1);
            row("page 1", Check.pageRow(lexicon("a:5,b:7,c:9"), 1), 1, 2, 1, 11, 0, 1);
        });
        edge(sentence, "rule 4, though 5 would fit behind it", () ->
            row("page 0", Check.pageRow(lexicon("a:10,b:12"), 0), 0, 0, 1, 10, 1, 1));
    }

    private static void wholeOnThePage() {
        String sentence = "If n is at most r, all of it comes to this page.";
        edge(sentence, "n is r, on a page with lines, and r + 1", () -> {
            row("b, 6 lines of room for 6", Check.entryRow(lexicon("a:5,b:6"), 1), 6, 0, 5, 0, 1);
            row("b, 7 lines of room for 6", Check.entryRow(lexicon("a:5,b:7"), 1), 7, 0, 5, 1, 2);
        });
        edge(sentence, "n is r, on an empty page, and r + 1", () -> {
            row("a, 11 lines", Check.entryRow(lexicon("a:11"), 0), 11, 0, 0, 0, 1);
            row("a, 12 lines", Check.entryRow(lexicon("a:12"), 0), 12, 0, 0, 1, 2);
        });
        edge(sentence, "n and r are 1, less than KEEP", () -> {
            row("b, KEEP 2", Check.entryRow(lexicon("a:10,b:1"), 1), 1, 0, 10, 0, 1);
            row("b, KEEP 3", Check.entryRow(lexicon(12, 12, 3, "a:10,b:1"), 1), 1, 0, 10, 0, 1);
            row("b, KEEP 3, 2 lines of room for 2", Check.entryRow(lexicon(12, 12, 3, "a:9,b:2"), 1), 2, 0, 9, 0, 1);
        });
    }

    private static void parted() {
        String sentence = "If r is at least KEEP, and n - r is at least KEEP, its first r lines come to this page";
        edge(sentence, "r is KEEP, and n - r is KEEP", () -> {
            row("b, KEEP 1", Check.entryRow(lexicon(12, 12, 1, "a:10,b:2,c:1"), 1), 2, 0, 10, 1, 2);
            row("page 0", Check.pageRow(lexicon(12, 12, 1, "a:10,b:2,c:1"), 0), 0, 1, 2, 11, 0, 1);
            row("b, KEEP 2", Check.entryRow(lexicon("a:9,b:4,c:1"), 1), 4, 0, 9, 1, 2);
            row("page 0", Check.pageRow(lexicon("a:9,b:4,c:1"), 0), 0, 1, 2, 11, 0, 1);
            row("b, KEEP 3", Check.entryRow(lexicon(12, 12, 3, "a:8,b:6,c:1"), 1), 6, 0, 8, 1, 2);
            row("page 0", Check.pageRow(lexicon(12, 12, 3, "a:8,b:6,c:1"), 0), 0, 1, 2, 11, 0, 1);
        });
        edge(sentence, "r is KEEP - 1: it goes to the next page", () -> {
            row("b, KEEP 2", Check.entryRow(lexicon("a:10,b:4"), 1), 4, 1, 0, 1, 1);
            row("b, KEEP 3", Check.entryRow(lexicon(12, 12, 3, "a:9,b:6"), 1), 6, 1, 0, 1, 1);
            row("b, KEEP 3, 40 lines", Check.entryRow(lexicon(12, 12, 3, "a:9,b:40"), 1), 40, 1, 0, 4, 4);
        });
        edge(sentence, "n - r is KEEP, with more room than KEEP, and KEEP - 1", () -> {
            row("page 0, 6 and 2", Check.pageRow(lexicon("a:5,b:8"), 0), 0, 1, 2, 11, 0, 1);
            row("page 1, 6 and 2", Check.pageRow(lexicon("a:5,b:8"), 1), 1, 1, 0, 2, 9, 1);
            row("page 0, 5 and 2", Check.pageRow(lexicon("a:5,b:7"), 0), 0, 1, 2, 10, 1, 1);
            row("page 1, 5 and 2", Check.pageRow(lexicon("a:5,b:7"), 1), 1, 1, 0, 2, 9, 1);
        });
        String rest = "and the rest to the next pages, as much to each as there is room";
        edge(rest, "the rest just fills pages, and has a line more or less", () -> {
            row("b, 2, 11, 11", Check.entryRow(lexicon("a:9,b:24"), 1), 24, 0, 9, 2, 3);
            row("b, 2, 11, 11, 1", Check.entryRow(lexicon("a:9,b:25"), 1), 25, 0, 9, 3, 4);
            row("its last page", Check.pageRow(lexicon("a:9,b:25"), 3), 1, 1, 0, 1, 10, 1);
            row("b, 2, 11, 10", Check.entryRow(lexicon("a:9,b:23"), 1), 23, 0, 9, 2, 3);
            row("its last page", Check.pageRow(lexicon("a:9,b:23"), 2), 1, 1, 0, 10, 1, 1);
        });
        edge(rest, "pages with heads of two lines and of one: rooms for 4, 5 and 5", () -> {
            // aaa-ab has 6 characters, ab 2, ab-bbb 6.
            Heads x = lexicon(6, 4, 1, "aaa:2,ab:12,bbb:1");
            row("ab, 2, 5 and 5", Check.entryRow(x, 1), 12, 0, 2, 2, 3);
            row("page 0", Check.pageRow(x, 0), 0, 1, 2, 4, 0, 2);
            row("page 2", Check.pageRow(x, 2), 1, 1, 0, 5, 0, 1);
            row("bbb", Check.entryRow(x, 2), 1, 3, 0, 3, 1);
            x = lexicon(6, 4, 1, "aaa:2,ab:13,bbb:1");
            row("ab, 2, 5, 5 and 1", Check.entryRow(x, 1), 13, 0, 2, 3, 4);
            row("page 3", Check.pageRow(x, 3), 1, 2, 1, 2, 2, 2);
        });
    }

    private static void keptTogether() {
        String sentence = "If r is at least KEEP, and n - KEEP is at least KEEP, its first n - KEEP lines come to this page,"
            + " and the other ones to the next page.";
        edge(sentence, "n - KEEP is KEEP", () -> {
            Heads x = lexicon("a:8,b:4,c:1");
            row("b, KEEP 2, 2 and 2 though there is room for 3", Check.entryRow(x, 1), 4, 0, 8, 1, 2);
            row("page 0", Check.pageRow(x, 0), 0, 1, 2, 10, 1, 1);
            row("page 1", Check.pageRow(x, 1), 1, 2, 1, 3, 8, 1);
            x = lexicon(12, 12, 3, "a:6,b:6,c:1");
            row("b, KEEP 3, 3 and 3 though there is room for 5", Check.entryRow(x, 1), 6, 0, 6, 1, 2);
            row("page 0", Check.pageRow(x, 0), 0, 1, 2, 9, 2, 1);
            row("page 1", Check.pageRow(x, 1), 1, 2, 1, 4, 7, 1);
            x = lexicon(12, 12, 3, "a:7,b:6,c:1");
            row("b, KEEP 3, 3 and 3 though there is room for 4", Check.entryRow(x, 1), 6, 0, 7, 1, 2);
            row("page 0", Check.pageRow(x, 0), 0, 1, 2, 10, 1, 1);
        });
        edge(sentence, "n - KEEP is KEEP - 1: it goes to the next page", () -> {
            row("b, KEEP 2, room for 2", Check.entryRow(lexicon("a:9,b:3"), 1), 3, 1, 0, 1, 1);
            row("b, KEEP 3, room for 4", Check.entryRow(lexicon(12, 12, 3, "a:7,b:5"), 1), 5, 1, 0, 1, 1);
            row("b, KEEP 3, room for 3", Check.entryRow(lexicon(12, 12, 3, "a:8,b:5"), 1), 5, 1, 0, 1, 1);
            row("b, KEEP 3, 4 lines, room for 3", Check.entryRow(lexicon(12, 12, 3, "a:8,b:4"), 1), 4, 1, 0, 1, 1);
        });
        edge(sentence, "on an empty page: a line more than there is room for", () -> {
            row("page 0, 10 lines", Check.pageRow(lexicon("a:12"), 0), 0, 0, 1, 10, 1, 1);
            row("page 1, 2 lines", Check.pageRow(lexicon("a:12"), 1), 0, 0, 0, 2, 9, 1);
            row("page 0, KEEP 3, 10 lines", Check.pageRow(lexicon(12, 12, 3, "a:13"), 0), 0, 0, 1, 10, 1, 1);
            row("page 1, KEEP 3, 3 lines", Check.pageRow(lexicon(12, 12, 3, "a:13"), 1), 0, 0, 0, 3, 8, 1);
            row("page 0, KEEP 1, 11 lines", Check.pageRow(lexicon(12, 12, 1, "a:12"), 0), 0, 0, 1, 11, 0, 1);
        });
    }

    private static void nextPage() {
        String sentence = "If there is a line on the page of now, the next page becomes the page of now";
        edge(sentence, "a page that is full, r is 0", () -> {
            row("b", Check.entryRow(lexicon("a:11,b:1"), 1), 1, 1, 0, 1, 1);
            row("b, KEEP 1", Check.entryRow(lexicon(12, 12, 1, "a:11,b:40"), 1), 40, 1, 0, 4, 4);
        });
        edge(sentence, "a page with one line, on which an entry neither fits nor is parted", () -> {
            // LINES 6, KEEP 3, and a head of two lines leave room for 3 behind the line; 5 lines can't be parted.
            Heads x = lexicon(6, 4, 3, "aaaaa:1,b:5");
            row("b", Check.entryRow(x, 1), 5, 1, 0, 1, 1);
            row("page 0", Check.pageRow(x, 0), 0, 0, 1, 1, 3, 2);
        });
        String again = "and the entry is laid there by these rules, from 1 on";
        edge(again, "rule 1 on the next page, n is its room", () ->
            row("b", Check.entryRow(lexicon("a:10,b:11"), 1), 11, 1, 0, 1, 1));
        edge(again, "rule 2 on the next page, 11 and 2", () -> {
            row("b", Check.entryRow(lexicon("a:10,b:13"), 1), 13, 1, 0, 2, 2);
            row("page 1", Check.pageRow(lexicon("a:10,b:13"), 1), 1, 1, 1, 11, 0, 1);
        });
        edge(again, "rule 3 on the next page, 10 and 2", () -> {
            row("b", Check.entryRow(lexicon("a:10,b:12"), 1), 12, 1, 0, 2, 2);
            row("page 1", Check.pageRow(lexicon("a:10,b:12"), 1), 1, 1, 1, 10, 1, 1);
        });
        edge(again, "rule 5 on the next page, 4 and 1", () -> {
            Heads x = lexicon(6, 4, 3, "ab:2,bcdef:5,c:1");
            row("bcdef", Check.entryRow(x, 1), 5, 1, 0, 2, 2);
            row("page 1", Check.pageRow(x, 1), 1, 1, 1, 4, 0, 2);
            row("page 2", Check.pageRow(x, 2), 1, 2, 1, 2, 2, 2);
        });
    }

    private static void tooLongForAnEmptyPage() {
        // Only so: LINES 6, a head of two lines, KEEP 3 and 5 lines; all others fit or can be parted.
        String sentence = "Otherwise its first r lines come to this page";
        edge(sentence, "5 lines on an empty page with room for 4, KEEP 3", () -> {
            Heads x = lexicon(6, 4, 3, "abcde:5");
            row("abcde", Check.entryRow(x, 0), 5, 0, 0, 1, 2);
            row("page 0", Check.pageRow(x, 0), 0, 0, 1, 4, 0, 2);
            row("page 1", Check.pageRow(x, 1), 0, 0, 0, 1, 3, 2);
        });
        edge(sentence, "4 and 6 lines there, to which rules 1 and 3 apply", () -> {
            row("page 0 of 4", Check.pageRow(lexicon(6, 4, 3, "abcde:4"), 0), 0, 0, 1, 4, 0, 2);
            row("page 0 of 6", Check.pageRow(lexicon(6, 4, 3, "abcde:6"), 0), 0, 0, 1, 3, 1, 2);
            row("page 1 of 6", Check.pageRow(lexicon(6, 4, 3, "abcde:6"), 1), 0, 0, 0, 3, 1, 2);
        });
        edge(sentence, "with KEEP 2, to which rule 3 applies", () ->
            row("page 0 of 5", Check.pageRow(lexicon(6, 4, 2, "abcde:5"), 0), 0, 0, 1, 3, 1, 2));
    }

    private static void pageOfNow() {
        String sentence = "The page on which its last line is is the page of now then.";
        edge(sentence, "its last page is full, and has a line left", () -> {
            row("c behind 2, 11, 11", Check.entryRow(lexicon("a:9,b:24,c:1"), 2), 1, 3, 0, 3, 1);
            row("c behind 2, 11, 10", Check.entryRow(lexicon("a:9,b:23,c:1"), 2), 1, 2, 10, 2, 1);
            row("c behind 5 and 2", Check.entryRow(lexicon("a:5,b:7,c:9"), 2), 9, 1, 2, 1, 1);
        });
        edge("The first entry is laid with the page 0 as the page of now, which is empty.", "entries of 1 and of 40 lines", () -> {
            row("a of 1", Check.entryRow(lexicon("a:1"), 0), 1, 0, 0, 0, 1);
            row("a of 40, LINES 6", Check.entryRow(lexicon(6, 12, 3, "a:40"), 0), 40, 0, 0, 7, 8);
            row("the first page of 40", Check.pageRow(lexicon(6, 12, 3, "a:40"), 0), 0, 0, 1, 5, 0, 1);
        });
    }

    private static void howMany() {
        String sentence = "There are as many pages as have lines.";
        edge(sentence, "no entries, no pages", () -> {
            Heads x = new Heads();
            due("count(4)", x.count(4), 0);
            due("page(0, 0)", x.page(0, 0), NO_SUCH);
            x = lexicon("a:1");
            due("drop(0)", x.drop(0), 1);
            due("count(4)", x.count(4), 0);
            due("page(0, 0)", x.page(0, 0), NO_SUCH);
        });
        edge(sentence, "a page that is just full has none behind it, a line more makes one", () -> {
            due("pages of 11 lines", lexicon("a:5,b:6").count(4), 1);
            due("pages of 12 lines", lexicon("a:5,b:6,c:1").count(4), 2);
            due("pages of 22 lines", lexicon("a:11,b:11").count(4), 2);
        });
        edge(sentence, "the most there can be: 30 entries of 40 lines on pages with room for 4", () -> {
            Heads x = Check.full();
            due("count(4)", x.count(4), 300);
            row("page 299", Check.pageRow(x, 299), 29, 29, 0, 4, 0, 2);
            due("page(300, 0)", x.page(300, 0), NO_SUCH);
        });
    }
}
