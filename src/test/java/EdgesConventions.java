/** What the document says of an object as a whole, of its constants, and of all methods at once. */
final class EdgesConventions extends Edges {
    static void all() {
        part("What it is");
        calls();
        part("The public face");
        constants();
        part("Terms");
        errors();
        order();
        nothingChanges();
        none();
        numberedFromZero();
    }

    private static void calls() {
        String sentence = "An object is used for at most 512 calls after it has been made";
        edge(sentence, "the 512th call, an undo behind 511 changes", () -> {
            Heads x = new Heads();
            while (x.left() > 1) {
                x.set(WIDTH, 4 + x.left() % 27);
            }
            due("undo()", x.undo(), 5);
        });
        edge(sentence, "the 512th call, a put that fills the pad", () -> {
            Heads x = new Heads();
            while (x.left() > 60) {
                x.wipe();
            }
            for (int length = 1; length <= 60; length++) {
                due("put(126)", x.put(126), length);
            }
            due("calls that are left", x.left(), 0);
        });
        edge(sentence, "the 512th call, a question behind 30 entries of 40 lines and what-ifs", () -> {
            Heads x = many(30, 40);
            while (x.left() > 1) {
                x.bestLines(x.left() % 2);
            }
            due("count(6)", x.count(6), 1200);
        });
        edge("what later calls answer is free", "but none throws, as LANGUAGE.md asks (rule 7)", () -> {
            RunningHeads x = new RunningHeads();
            for (int call = 0; call < 3000; call++) {
                x.put(call % 10 == 9 ? ':' << 8 | '9' : 'a' + call % 26);
                x.read();
                x.set(call % 3, 6);
                x.page(call, 7);
                x.undo();
            }
        });
    }

    private static void constants() {
        String sentence = "NO_SUCH = -1, BAD_VALUE = -2, BAD_TEXT = -3, TOO_MANY = -4, NOT_POSSIBLE = -5, NONE = -6";
        edge(sentence, "each of them", () -> {
            due("NO_SUCH", RunningHeads.NO_SUCH, -1);
            due("BAD_VALUE", RunningHeads.BAD_VALUE, -2);
            due("BAD_TEXT", RunningHeads.BAD_TEXT, -3);
            due("TOO_MANY", RunningHeads.TOO_MANY, -4);
            due("NOT_POSSIBLE", RunningHeads.NOT_POSSIBLE, -5);
            due("NONE", RunningHeads.NONE, -6);
        });
        edge("LINES = 0, WIDTH = 1, KEEP = 2", "each of them", () -> {
            due("LINES", RunningHeads.LINES, 0);
            due("WIDTH", RunningHeads.WIDTH, 1);
            due("KEEP", RunningHeads.KEEP, 2);
        });
    }

    private static void errors() {
        String sentence = "returns one of the error codes NO_SUCH (-1), BAD_VALUE (-2), BAD_TEXT (-3), TOO_MANY (-4)"
            + " and NOT_POSSIBLE (-5)";
        edge(sentence, "each code as a number", () -> {
            Heads x = new Heads();
            due("drop(0)", x.drop(0), -1);
            due("set(3, 6)", x.set(3, 6), -2);
            due("read()", x.read(), -3);
            due("put(97)", x.put(97), 1);
            due("find()", x.find(), -6);
            for (int length = 2; length <= 60; length++) {
                x.put(97);
            }
            due("put(97) of 61", x.put(97), -4);
            due("undo()", x.undo(), -5);
        });
    }

    /** Each pair of errors that can apply at once; the remark says which promise it is of. */
    private static void order() {
        String sentence = "it names its errors in the order in which they are checked, and the first one that applies is"
            + " returned";
        edge(sentence, "promise 3, BAD_TEXT ahead of TOO_MANY", () -> {
            due("read() of a fault behind a 31st entry", withPad(many(30, 1), "aa:1,").read(), BAD_TEXT);
            due("read() without the fault", withPad(many(30, 1), "aa:1").read(), TOO_MANY);
        });
        edge(sentence, "promise 4, NO_SUCH ahead of BAD_VALUE", () -> {
            due("change(1, 0)", calm("").change(1, 0), NO_SUCH);
            due("change(-1, 41)", calm("").change(-1, 41), NO_SUCH);
            due("change(LOW, LOW)", calm("").change(LOW, LOW), NO_SUCH);
            due("change(0, 0)", calm("").change(0, 0), BAD_VALUE);
        });
        edge(sentence, "promise 6, NO_SUCH where none is behind, with lines that would be too many", () -> {
            due("join(1) of the last", lexicon("a:40,b:40").join(1), NO_SUCH);
            due("join(0)", lexicon("a:40,b:40").join(0), TOO_MANY);
        });
        edge(sentence, "promise 7, NO_SUCH ahead of BAD_TEXT", () -> {
            due("rename(1), an empty pad", calm("").rename(1), NO_SUCH);
            due("rename(-1), a pad that is no word", calm("a:1").rename(-1), NO_SUCH);
            due("rename(0), an empty pad", calm("").rename(0), BAD_TEXT);
        });
        edge(sentence, "promise 7, NO_SUCH ahead of NOT_POSSIBLE", () -> {
            due("rename(1) to the word of 0", calm("m").rename(1), NO_SUCH);
            due("rename(-1) to the word of 0", calm("m").rename(-1), NO_SUCH);
        });
        edge(sentence, "promise 8, NO_SUCH ahead of BAD_VALUE", () -> {
            due("entry(1, -1)", calm("").entry(1, -1), NO_SUCH);
            due("entry(-1, LOW)", calm("").entry(-1, LOW), NO_SUCH);
            due("entry(0, -1)", calm("").entry(0, -1), BAD_VALUE);
        });
        edge(sentence, "promise 9, NO_SUCH ahead of BAD_VALUE", () -> {
            due("page(1, -1)", calm("").page(1, -1), NO_SUCH);
            due("page(-1, LOW)", calm("").page(-1, LOW), NO_SUCH);
            due("page(0, -1)", calm("").page(0, -1), BAD_VALUE);
        });
        edge(sentence, "promise 17, BAD_VALUE ahead of TOO_MANY", () -> {
            Heads x = padOnly(FIFTY_NINE + "1");
            due("put(0)", x.put(0), BAD_VALUE);
            due("put(32)", x.put(32), BAD_VALUE);
            due("put(LOW)", x.put(Long.MIN_VALUE), BAD_VALUE);
            due("put(33)", x.put(33), TOO_MANY);
        });
        edge(sentence, "promise 22, BAD_VALUE ahead of NOT_POSSIBLE", () -> {
            due("restore(2)", new Heads().restore(2), BAD_VALUE);
            due("restore(-1)", new Heads().restore(-1), BAD_VALUE);
            due("restore(0)", new Heads().restore(0), NOT_POSSIBLE);
        });
    }

    /** Each error of each method; the remark says which promise it is of. */
    private static void nothingChanges() {
        String sentence = "A call that returns an error changes nothing.";
        edge(sentence, "promise 2, set: BAD_VALUE", () -> {
            refused("set(LINES, 41)", "q:1", x -> x.set(LINES, 41), BAD_VALUE);
            refused("set(WIDTH, 3)", "q:1", x -> x.set(WIDTH, 3), BAD_VALUE);
            refused("set(KEEP, 0)", "q:1", x -> x.set(KEEP, 0), BAD_VALUE);
            refused("set(3, 6)", "q:1", x -> x.set(3, 6), BAD_VALUE);
            refused("set(-1, 6)", "q:1", x -> x.set(-1, 6), BAD_VALUE);
        });
        edge(sentence, "promise 3, read: BAD_TEXT", () -> {
            refused("read() of nothing", "", Heads::read, BAD_TEXT);
            refused("read() of an entry and a begun one", "q:1,r", Heads::read, BAD_TEXT);
            refused("read() of an entry that stands and a fault", "a:1,B", Heads::read, BAD_TEXT);
        });
        edge(sentence, "promise 3, read: TOO_MANY", () -> {
            unchanged("read() of a 31st", () -> withPad(many(30, 1), "aa:2"), Heads::read, TOO_MANY);
            unchanged("read() of one that stands, a 30th and a 31st", () -> withPad(many(29, 1), "a:9,aa:2,ab:3"), Heads::read,
                TOO_MANY);
        });
        edge(sentence, "promise 4, change: NO_SUCH and BAD_VALUE", () -> {
            refused("change(3, 1)", "q:1", x -> x.change(3, 1), NO_SUCH);
            refused("change(-1, 1)", "q:1", x -> x.change(-1, 1), NO_SUCH);
            refused("change(0, 0)", "q:1", x -> x.change(0, 0), BAD_VALUE);
            refused("change(2, 41)", "q:1", x -> x.change(2, 41), BAD_VALUE);
        });
        edge(sentence, "promise 5, drop: NO_SUCH", () -> {
            refused("drop(3)", "q:1", x -> x.drop(3), NO_SUCH);
            refused("drop(-1)", "q:1", x -> x.drop(-1), NO_SUCH);
            unchanged("drop(0) of none", () -> padOnly("q:1"), x -> x.drop(0), NO_SUCH);
        });
        edge(sentence, "promise 6, join: NO_SUCH and TOO_MANY", () -> {
            refused("join(3)", "q:1", x -> x.join(3), NO_SUCH);
            refused("join(2), none behind it", "q:1", x -> x.join(2), NO_SUCH);
            refused("join(-1)", "q:1", x -> x.join(-1), NO_SUCH);
            unchanged("join(0) to 41", () -> lexicon("a:1,b:40,c:1"), x -> x.join(0), TOO_MANY);
        });
        edge(sentence, "promise 7, rename: NO_SUCH, BAD_TEXT and NOT_POSSIBLE", () -> {
            refused("rename(3)", "q", x -> x.rename(3), NO_SUCH);
            refused("rename(-1)", "q", x -> x.rename(-1), NO_SUCH);
            refused("rename(0), an empty pad", "", x -> x.rename(0), BAD_TEXT);
            refused("rename(0) to an entry", "q:1", x -> x.rename(0), BAD_TEXT);
            refused("rename(0) to the word of 1", "bb", x -> x.rename(0), NOT_POSSIBLE);
            refused("rename(1) to the word of 0", "a", x -> x.rename(1), NOT_POSSIBLE);
        });
        questions(sentence);
        edge(sentence, "promise 17, put: BAD_VALUE", () -> {
            refused("put(0)", "q:1,r", x -> x.put(0), BAD_VALUE);
            refused("put of a letter and a blank", "q:1,r", x -> x.put('s' << 8 | ' '), BAD_VALUE);
            refused("put of a blank and a letter", "q:1,r", x -> x.put(' ' << 8 | 's'), BAD_VALUE);
            refused("put of a letter behind a gap", "q:1,r", x -> x.put('t' << 16 | 's'), BAD_VALUE);
            refused("put of the smallest long", "q:1,r", x -> x.put(Long.MIN_VALUE), BAD_VALUE);
            refused("put of the largest long", "q:1,r", x -> x.put(Long.MAX_VALUE), BAD_VALUE);
        });
        edge(sentence, "promise 17, put: TOO_MANY", () -> {
            unchanged("put behind a full pad", () -> padOnly(FIFTY_NINE + "1"), x -> x.put('1'), TOO_MANY);
            unchanged("put of two behind 59", () -> padOnly(FIFTY_NINE),
                x -> x.put('1' << 8 | ','), TOO_MANY);
        });
        edge(sentence, "promise 20, undo: NOT_POSSIBLE", () -> unchanged("undo() of none", () -> {
            Heads x = calm("q:1");
            due("save(0)", x.save(0), 1);
            due("undo()", x.undo(), 0);
            return x;
        }, Heads::undo, NOT_POSSIBLE));
        edge(sentence, "promise 21, save: BAD_VALUE", () -> {
            refused("save(2)", "q:1", x -> x.save(2), BAD_VALUE);
            refused("save(-1)", "q:1", x -> x.save(-1), BAD_VALUE);
        });
        edge(sentence, "promise 22, restore: BAD_VALUE and NOT_POSSIBLE", () -> {
            refused("restore(2)", "q:1", x -> x.restore(2), BAD_VALUE);
            refused("restore(-1)", "q:1", x -> x.restore(-1), BAD_VALUE);
            unchanged("restore(0) of nothing", () -> calm("q:1"), x -> x.restore(0), NOT_POSSIBLE);
            unchanged("restore(1) of nothing", () -> calm("q:1"), x -> x.restore(1), NOT_POSSIBLE);
        });
    }

    private static void questions(String sentence) {
        edge(sentence, "promises 8 to 11, entry, page, fold, count: NO_SUCH and BAD_VALUE", () -> {
            refused("entry(3, 0)", "q:1", x -> x.entry(3, 0), NO_SUCH);
            refused("entry(0, -1)", "q:1", x -> x.entry(0, -1), BAD_VALUE);
            refused("page(99, 0)", "q:1", x -> x.page(99, 0), NO_SUCH);
            refused("page(0, -1)", "q:1", x -> x.page(0, -1), BAD_VALUE);
            refused("fold(99, true)", "q:1", x -> x.fold(99, true), NO_SUCH);
            refused("fold(-1, false)", "q:1", x -> x.fold(-1, false), NO_SUCH);
            refused("count(-1)", "q:1", x -> x.count(-1), BAD_VALUE);
            refused("count(15)", "q:1", x -> x.count(15), BAD_VALUE);
        });
        edge(sentence, "promises 12 and 13, lookFor, find: BAD_TEXT", () -> {
            refused("lookFor() of nothing", "", Heads::lookFor, BAD_TEXT);
            refused("lookFor() of an entry", "q:1", Heads::lookFor, BAD_TEXT);
            refused("find() of nothing", "", Heads::find, BAD_TEXT);
            refused("find() of an entry", "q:1", Heads::find, BAD_TEXT);
        });
        edge(sentence, "promises 14 to 16, ifSet, leastLines, bestLines: BAD_VALUE", () -> {
            refused("ifSet(LINES, 5)", "q:1", x -> x.ifSet(LINES, 5), BAD_VALUE);
            refused("ifSet(3, 6)", "q:1", x -> x.ifSet(3, 6), BAD_VALUE);
            refused("leastLines(0)", "q:1", x -> x.leastLines(0), BAD_VALUE);
            refused("leastLines(201)", "q:1", x -> x.leastLines(201), BAD_VALUE);
            refused("bestLines(-1)", "q:1", x -> x.bestLines(-1), BAD_VALUE);
            refused("bestLines(2)", "q:1", x -> x.bestLines(2), BAD_VALUE);
        });
    }

    private static void none() {
        String sentence = "NONE (-6) is not an error; it is returned only if no error applies.";
        edge(sentence, "promise 8: entry behind its last letter, and NO_SUCH there", () -> {
            due("entry(0, 7)", calm("").entry(0, 7), NONE);
            due("entry(1, 7)", calm("").entry(1, 7), NO_SUCH);
        });
        edge(sentence, "promise 9: page behind its last character, and NO_SUCH there", () -> {
            due("page(0, 8)", calm("").page(0, 8), NONE);
            due("page(1, 8)", calm("").page(1, 8), NO_SUCH);
        });
        edge(sentence, "promise 10: the right name without a right page, and NO_SUCH behind the last fold", () -> {
            due("fold(0, false)", calm("").fold(0, false), NONE);
            due("fold(1, false)", calm("").fold(1, false), NO_SUCH);
        });
        edge(sentence, "promise 12: lookFor without pages, and BAD_TEXT there", () -> {
            due("lookFor()", padOnly("a").lookFor(), NONE);
            due("lookFor() of an empty pad", new Heads().lookFor(), BAD_TEXT);
        });
        edge(sentence, "promise 13: find of no entry, and BAD_TEXT there", () -> {
            due("find()", calm("n").find(), NONE);
            due("find() of no word", calm("n:1").find(), BAD_TEXT);
        });
        edge(sentence, "promise 15: leastLines of too many lines, and BAD_VALUE there", () -> {
            due("leastLines(1)", lexicon("a:40").leastLines(1), NONE);
            due("leastLines(0)", lexicon("a:40").leastLines(0), BAD_VALUE);
        });
        edge(sentence, "promise 19: no fault", () -> due("fault()", calm("a:1").fault(), NONE));
    }

    private static void numberedFromZero() {
        String sentence = "Everything is numbered from 0.";
        edge(sentence, "entries, pages, folds, letters, characters and slots", () -> {
            Heads x = lexicon("ab:11,cd:11");
            due("the lines of entry 0", x.entry(0, 0), 11);
            due("the page on which entry 0 begins", x.entry(0, 1), 0);
            due("the line on which entry 0 begins", x.entry(0, 2), 0);
            due("its first letter", x.entry(0, 6), 'a');
            due("the first entry of page 0", x.page(0, 0), 0);
            due("the first character of its head", x.page(0, 7), 'a');
            due("the left name of fold 0", x.fold(0, true), 0);
            due("the right name of fold 0", x.fold(0, false), 1);
            due("save(0)", x.save(0), 2);
            due("restore(0)", x.restore(0), 2);
            due("restore(1)", x.restore(1), NOT_POSSIBLE);
        });
    }
}
