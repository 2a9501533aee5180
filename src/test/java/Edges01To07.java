/** Promises 1 to 7: a new object, and the changes. */
final class Edges01To07 extends Edges {
    static void all() {
        part("Promise 1: A new object");
        newObject();
        part("Promise 2: set");
        setting();
        part("Promise 3: read");
        read();
        readTooMany();
        part("Promise 4: change");
        change();
        part("Promise 5: drop");
        drop();
        part("Promise 6: join");
        join();
        part("Promise 7: rename");
        rename();
        renameErrors();
    }

    private static void newObject() {
        String sentence = "Creates a lexicon without entries.";
        edge(sentence, "each number of it", () -> {
            Heads x = new Heads();
            int[] want = {12, 12, 2, 0, 0, 0, 0, 0, 1, 1, 0, 0, 0, 0, 0};
            for (int what = 0; what < want.length; what++) {
                due("count(" + what + ")", x.count(what), want[what]);
            }
        });
        edge(sentence, "nothing is there: entries, pages, folds, pad, history, slots", () -> {
            Heads x = new Heads();
            due("entry(0, 0)", x.entry(0, 0), NO_SUCH);
            due("page(0, 0)", x.page(0, 0), NO_SUCH);
            due("fold(0, true)", x.fold(0, true), NO_SUCH);
            due("fault()", x.fault(), 0);
            due("undo()", x.undo(), NOT_POSSIBLE);
            due("restore(0)", x.restore(0), NOT_POSSIBLE);
            due("restore(1)", x.restore(1), NOT_POSSIBLE);
            due("find()", withPad(x, "a").find(), NONE);
        });
        edge(sentence, "also behind another object that is full of all", () -> {
            Heads other = busy("q:1");
            Twins.alike("two new objects", () -> {
                Heads x = busy("q:1");
                due("drop(0) of the one behind", x.drop(0), 5);
                return new Heads();
            }, Heads::new);
            due("count(3) of the other", other.count(3), 3);
        });
    }

    // ---- promise 2

    private static void setting() {
        String sentence = "BAD_VALUE if there is no such setting, or value is out of its range.";
        edge(sentence, "setting 0 and one less, with values that others may have", () -> {
            due("set(0, 6)", new Heads().set(0, 6), 12);
            for (int value : new int[] {1, 3, 4, 6, 12, 30, 40}) {
                refused("set(-1, " + value + ")", "", x -> x.set(-1, value), BAD_VALUE);
            }
        });
        edge(sentence, "setting 2 and one more, with values that others may have", () -> {
            due("set(2, 3)", new Heads().set(2, 3), 2);
            for (int value : new int[] {1, 3, 4, 6, 12, 30, 40}) {
                refused("set(3, " + value + ")", "", x -> x.set(3, value), BAD_VALUE);
            }
        });
        edge(sentence, "the smallest and the largest int as a setting and as a value", () -> {
            for (int far : new int[] {LOW, HIGH}) {
                refused("set(" + far + ", 6)", "", x -> x.set(far, 6), BAD_VALUE);
                refused("set(" + far + ", " + far + ")", "", x -> x.set(far, far), BAD_VALUE);
                for (int setting = LINES; setting <= KEEP; setting++) {
                    int of = setting;
                    refused("set(" + of + ", " + far + ")", "", x -> x.set(of, far), BAD_VALUE);
                }
            }
        });
        edge(sentence, "one beside each end of each range", () -> {
            for (int setting = LINES; setting <= KEEP; setting++) {
                int of = setting;
                refused("one less", "", x -> x.set(of, LEAST[of] - 1), BAD_VALUE);
                refused("one more", "", x -> x.set(of, MOST[of] + 1), BAD_VALUE);
                due("the least", new Heads().set(of, LEAST[of]), FIRST[of]);
                due("the largest", new Heads().set(of, MOST[of]), FIRST[of]);
            }
        });
        edge(sentence, "values that other settings may have, but this one may not", () -> {
            due("set(LINES, 4), a WIDTH", new Heads().set(LINES, 4), BAD_VALUE);
            due("set(WIDTH, 3), a KEEP", new Heads().set(WIDTH, 3), BAD_VALUE);
            due("set(WIDTH, 40), LINES", new Heads().set(WIDTH, 40), BAD_VALUE);
            due("set(KEEP, 4), a WIDTH", new Heads().set(KEEP, 4), BAD_VALUE);
            due("set(KEEP, 6), LINES", new Heads().set(KEEP, 6), BAD_VALUE);
        });
        edge("Returns the previous value", "the first one, one that was set, the same, and one that was refused between", () -> {
            Heads x = new Heads();
            due("set(LINES, 40)", x.set(LINES, 40), 12);
            due("set(LINES, 6)", x.set(LINES, 6), 40);
            due("set(LINES, 6)", x.set(LINES, 6), 6);
            due("set(LINES, 5)", x.set(LINES, 5), BAD_VALUE);
            due("set(LINES, 7)", x.set(LINES, 7), 6);
            due("undo()", x.undo(), 3);
            due("set(LINES, 8)", x.set(LINES, 8), 6);
        });
        edge("Changes a setting.", "this one alone, and the pages with it", () -> {
            Heads x = lexicon("abcde:9");
            for (int setting = LINES; setting <= KEEP; setting++) {
                due("set of the least", x.set(setting, LEAST[setting]), FIRST[setting]);
                for (int other = LINES; other <= KEEP; other++) {
                    due("count(" + other + ")", x.count(other), other <= setting ? LEAST[other] : FIRST[other]);
                }
            }
            // LINES 6, WIDTH 4, KEEP 1: a head of two lines, and 4, 4 and 1.
            due("pages", x.count(4), 3);
            due("heads of two lines", x.count(12), 3);
        });
        edge("This is a change.", "also with the value that it has", () -> changes(new Heads(), x -> x.set(KEEP, 2), 2));
    }

    /** The pages behind a change are those of a lexicon that was so from the first. */
    private static void laidAs(Heads x, Heads other) {
        same("the entries", Check.entries(x), Check.entries(other));
        same("the pages", Check.pages(x), Check.pages(other));
    }

    /** The call answers this and is one more change, that undo takes back. */
    private static void changes(Heads x, Twins.Call call, int answer) {
        int before = x.count(14);
        String state = Check.state(x);
        due("the change", call.of(x), answer);
        due("count(14)", x.count(14), before + 1);
        due("undo()", x.undo(), before);
        same("the state behind undo", Check.state(x), state);
    }

    // ---- promise 3

    private static void read() {
        edge("Adds the entries of the pad", "one, and as many as a full pad has", () -> {
            due("read() of one", padOnly("a:1").read(), 1);
            Heads x = padOnly("o:12,n:1,m:1,l:1,k:1,j:1,i:1,h:1,g:1,f:1,e:1,d:1,c:1,b:1,a:1");
            due("read() of 15", x.read(), 15);
            due("count(6)", x.count(6), 26);
            due("lines of the last", x.entry(14, 0), 12);
        });
        edge("Adds the entries of the pad", "ahead of all that stand, between them, and behind all", () -> {
            due("read()", withPad(lexicon("b:1,d:1"), "a:2,c:2,e:2").read(), 5);
            same("the entries", Check.entries(lexicon("b:1,d:1", "e:2,a:2,c:2")), "a:2,b:1,c:2,d:1,e:2");
        });
        edge("Adds the entries of the pad", "the pages with them: heads, breaks and a page more", () -> {
            laidAs(lexicon("b:9,d:4", "a:3,c:1"), lexicon("a:3,b:9,c:1,d:4"));
            laidAs(lexicon(7, 4, 3, "bx:9", "ax:8"), lexicon(7, 4, 3, "ax:8,bx:9"));
        });
        String twice = "one whose word stands already (or twice in the pad) gets the lines that are told for it last";
        edge(twice, "it stands already: the first and the last one, with more and with fewer lines", () ->
            same("the entries", Check.entries(lexicon("a:5,b:5,c:5", "a:40,c:1")), "a:40,b:5,c:1"));
        edge(twice, "twice and thrice in the pad", () -> {
            same("the entries", Check.entries(lexicon("a:1,a:2")), "a:2");
            same("the entries", Check.entries(lexicon("a:3,b:1,a:2,b:2,a:1")), "a:1,b:2");
        });
        edge(twice, "it stands already, and twice in the pad", () ->
            same("the entries", Check.entries(lexicon("a:1", "a:2,b:9,a:3")), "a:3,b:9"));
        edge(twice, "a word that it begins with, or that begins with it, is another one", () -> {
            same("the entries", Check.entries(lexicon("ab:1", "a:2,abc:3")), "a:2,ab:1,abc:3");
            same("the entries", Check.entries(lexicon("abcdef:1", "abcdefg:2")), "abcdef:1,abcdefg:2");
        });
        edge("The pad is emptied.", "and the next text begins anew", () -> {
            Heads x = lexicon("a:1");
            due("count(13)", x.count(13), 0);
            due("fault()", x.fault(), 0);
            due("read() again", x.read(), BAD_TEXT);
            due("put", x.put('b'), 1);
        });
        edge("This is a change.", "also if nothing is different then", () ->
            changes(withPad(lexicon("a:1"), "a:1"), Heads::read, 1));
        edge("Returns how many entries there are then", "not how many are new", () -> {
            due("read() of two that stand", withPad(lexicon("a:1,b:1,c:1"), "a:1,b:1").read(), 3);
            due("read() of one new", withPad(lexicon("a:1,b:1,c:1"), "a:1,d:1").read(), 4);
        });
        String fault = "BAD_TEXT if the pad has a fault";
        edge(fault, "an empty pad", () -> {
            due("read()", new Heads().read(), BAD_TEXT);
            refused("read()", "", Heads::read, BAD_TEXT);
        });
        edge(fault, "a pad that ends too early, everywhere", () -> {
            for (String text : new String[] {"a", "a:", "a:1,", "a:1,b", "a:1,b:"}) {
                refused("read() of " + text, text, Heads::read, BAD_TEXT);
            }
        });
        edge(fault, "its first character, and its last one", () -> {
            for (String text : new String[] {":1", "1:1", ",a:1", "A:1", "a:0", "a:1;", "a:41", "a:1,b:0", "a:1,b:41", "q:400"}) {
                refused("read() of " + text, text, Heads::read, BAD_TEXT);
            }
        });
    }

    private static void readTooMany() {
        String sentence = "TOO_MANY if there would be more than 30.";
        edge(sentence, "29 and one are 30, 30 and one are 31", () -> {
            due("read() of the 30th", withPad(many(29, 1), "aa:1").read(), 30);
            unchanged("read() of the 31st", () -> withPad(many(30, 1), "aa:1"), Heads::read, TOO_MANY);
        });
        edge(sentence, "30, and words that stand", () -> {
            Heads x = withPad(many(30, 1), "a:2,zd:3");
            due("read()", x.read(), 30);
            due("lines of the first", x.entry(0, 0), 2);
            due("lines of the last", x.entry(29, 0), 3);
        });
        edge(sentence, "29, and a new word twice", () -> {
            Heads x = withPad(many(29, 1), "aa:2,aa:3");
            due("read()", x.read(), 30);
            due("its lines", x.entry(1, 0), 3);
        });
        edge(sentence, "29, and two new words: none of them comes", () ->
            unchanged("read()", () -> withPad(many(29, 1), "aa:2,ab:3"), Heads::read, TOO_MANY));
        edge(sentence, "30, a word that stands, and a new one: the one that stands keeps its lines", () -> {
            unchanged("read()", () -> withPad(many(30, 1), "a:2,aa:3"), Heads::read, TOO_MANY);
            unchanged("read()", () -> withPad(many(30, 1), "aa:3,a:2"), Heads::read, TOO_MANY);
        });
        edge(sentence, "the pad stays, and can be read when there is a place", () -> {
            Heads x = withPad(many(30, 1), "aa:2");
            due("read()", x.read(), TOO_MANY);
            due("drop(5)", x.drop(5), 1);
            due("read()", x.read(), 30);
            due("lines", x.entry(1, 0), 2);
        });
    }

    // ---- promise 4

    private static void change() {
        String sentence = "`lines`: 1 to 40";
        edge(sentence, "1 and 40, 0 and 41", () -> {
            Heads x = lexicon("a:5");
            due("change(0, 1)", x.change(0, 1), 5);
            due("change(0, 0)", x.change(0, 0), BAD_VALUE);
            due("entry(0, 0)", x.entry(0, 0), 1);
            due("change(0, 40)", x.change(0, 40), 1);
            due("change(0, 41)", x.change(0, 41), BAD_VALUE);
            due("entry(0, 0)", x.entry(0, 0), 40);
        });
        edge("BAD_VALUE if lines is out of range.", "-1, and the smallest and the largest int", () -> {
            for (int lines : new int[] {-1, 0, 41, LOW, HIGH}) {
                refused("change(0, " + lines + ")", "", x -> x.change(0, lines), BAD_VALUE);
            }
        });
        edge("NO_SUCH if there is no such entry", "the first and the last, and one beside them", () -> {
            Heads x = lexicon("a:1,b:2,c:3");
            due("change(0, 4)", x.change(0, 4), 1);
            due("change(2, 4)", x.change(2, 4), 3);
            refused("change(-1, 4)", "", y -> y.change(-1, 4), NO_SUCH);
            refused("change(3, 4)", "", y -> y.change(3, 4), NO_SUCH);
        });
        edge("NO_SUCH if there is no such entry", "no entries, 30 entries, and the smallest and the largest int", () -> {
            due("change(0, 4) of none", new Heads().change(0, 4), NO_SUCH);
            due("change(29, 4) of 30", many(30, 1).change(29, 4), 1);
            due("change(30, 4) of 30", many(30, 1).change(30, 4), NO_SUCH);
            refused("change(LOW, 4)", "", y -> y.change(LOW, 4), NO_SUCH);
            refused("change(HIGH, 4)", "", y -> y.change(HIGH, 4), NO_SUCH);
        });
        edge("Changes the lines of an entry.", "of this one alone, and the pages with it", () -> {
            Heads x = lexicon("a:1,b:2,c:3");
            due("change(1, 40)", x.change(1, 40), 2);
            same("the entries", Check.entries(x), "a:1,b:40,c:3");
            due("pages", x.count(4), 4);
            due("page of c", x.entry(2, 1), 3);
        });
        edge("Returns the previous ones", "the ones that were read, changed and joined", () -> {
            Heads x = lexicon("a:1,b:39");
            due("change(0, 1)", x.change(0, 1), 1);
            due("join(0)", x.join(0), 40);
            due("change(0, 2)", x.change(0, 2), 40);
        });
        edge("This is a change.", "also with the lines that it has", () -> changes(lexicon("a:7"), x -> x.change(0, 7), 7));
    }

    // ---- promise 5

    private static void drop() {
        edge("NO_SUCH if there is no such entry.", "the first and the last, and one beside them", () -> {
            due("drop(0)", lexicon("a:1,b:2,c:3").drop(0), 1);
            due("drop(2)", lexicon("a:1,b:2,c:3").drop(2), 3);
            refused("drop(-1)", "", x -> x.drop(-1), NO_SUCH);
            refused("drop(3)", "", x -> x.drop(3), NO_SUCH);
        });
        edge("NO_SUCH if there is no such entry.", "no entries, and the smallest and the largest int", () -> {
            due("drop(0) of none", new Heads().drop(0), NO_SUCH);
            Heads x = lexicon("a:1");
            due("drop(0)", x.drop(0), 1);
            due("drop(0) again", x.drop(0), NO_SUCH);
            refused("drop(LOW)", "", y -> y.drop(LOW), NO_SUCH);
            refused("drop(HIGH)", "", y -> y.drop(HIGH), NO_SUCH);
        });
        String behind = "those behind it get numbers that are 1 less";
        edge(behind, "behind the first, one between, and the last", () -> {
            Heads x = lexicon("a:1,bb:2,c:3,ddd:4");
            due("drop(0)", x.drop(0), 1);
            same("the entries", Check.entries(x), "bb:2,c:3,ddd:4");
            due("drop(1)", x.drop(1), 3);
            same("the entries", Check.entries(x), "bb:2,ddd:4");
            due("drop(1)", x.drop(1), 4);
            same("the entries", Check.entries(x), "bb:2");
            due("entry(1, 0)", x.entry(1, 0), NO_SUCH);
        });
        edge(behind, "all 30, from the first on", () -> {
            Heads x = many(30, 1);
            for (int left = 29; left >= 0; left--) {
                due("drop(0)", x.drop(0), 1);
                due("count(3)", x.count(3), left);
                due("the first letter of the first", x.entry(0, 6), left == 0 ? NO_SUCH : word(30 - left).charAt(0));
            }
        });
        edge("Drops an entry", "the pages with it: heads, breaks and a page less", () -> {
            Heads x = lexicon("a:3,b:9,c:1,d:9");
            due("drop(1)", x.drop(1), 9);
            laidAs(x, lexicon("a:3,c:1,d:9"));
        });
        edge("Drops an entry", "the only one: no pages are left", () -> {
            Heads x = lexicon("a:40");
            due("drop(0)", x.drop(0), 40);
            int[] want = {12, 12, 2, 0, 0, 0, 0, 0, 1, 1, 0, 0, 0, 0, 2};
            for (int what = 0; what < want.length; what++) {
                due("count(" + what + ")", x.count(what), want[what]);
            }
        });
        edge("Returns its lines", "1 and 40", () -> {
            due("drop(0)", lexicon("a:1,b:40").drop(0), 1);
            due("drop(1)", lexicon("a:1,b:40").drop(1), 40);
        });
        edge("This is a change.", "of the first, the last and the only one", () -> {
            changes(lexicon("a:1,b:2"), x -> x.drop(0), 1);
            changes(lexicon("a:1,b:2"), x -> x.drop(1), 2);
            changes(lexicon("a:1"), x -> x.drop(0), 1);
        });
    }

    // ---- promise 6

    private static void join() {
        String many = "TOO_MANY if it would have more than 40.";
        edge(many, "just 40, and 41", () -> {
            due("join(0) of 1 and 39", lexicon("a:1,b:39").join(0), 40);
            due("join(0) of 20 and 20", lexicon("a:20,b:20").join(0), 40);
            due("join(0) of 39 and 1", lexicon("a:39,b:1").join(0), 40);
            due("join(0) of 1 and 40", lexicon("a:1,b:40").join(0), TOO_MANY);
            due("join(0) of 20 and 21", lexicon("a:20,b:21").join(0), TOO_MANY);
            due("join(0) of 40 and 1", lexicon("a:40,b:1").join(0), TOO_MANY);
        });
        edge(many, "the fewest, 2, and the most, 80", () -> {
            due("join(0) of 1 and 1", lexicon("a:1,b:1").join(0), 2);
            unchanged("join(0) of 40 and 40", () -> lexicon("a:40,b:40"), x -> x.join(0), TOO_MANY);
        });
        String none = "NO_SUCH if there is no such entry, or none behind it";
        edge(none, "the last but one, and the last", () -> {
            due("join(1) of 3", lexicon("a:1,b:2,c:3").join(1), 5);
            unchanged("join(2) of 3", () -> lexicon("a:1,b:2,c:3"), x -> x.join(2), NO_SUCH);
            unchanged("join(3) of 3", () -> lexicon("a:1,b:2,c:3"), x -> x.join(3), NO_SUCH);
            due("join(28) of 30", many(30, 1).join(28), 2);
            due("join(29) of 30", many(30, 1).join(29), NO_SUCH);
        });
        edge(none, "-1, behind which there is one", () ->
            unchanged("join(-1)", () -> lexicon("a:1,b:2,c:3"), x -> x.join(-1), NO_SUCH));
        edge(none, "the only one, and none", () -> {
            unchanged("join(0) of 1", () -> lexicon("a:1"), x -> x.join(0), NO_SUCH);
            due("join(0) of none", new Heads().join(0), NO_SUCH);
        });
        edge(none, "the smallest and the largest int, behind which the numbers wrap around", () -> {
            refused("join(LOW)", "", x -> x.join(LOW), NO_SUCH);
            refused("join(HIGH)", "", x -> x.join(HIGH), NO_SUCH);
        });
        edge("it gets the lines of that, too, which is dropped", "its word stays, and those behind get numbers that are 1 less", () -> {
            Heads x = lexicon("a:1,bb:2,ccc:3,dddd:4");
            due("join(0)", x.join(0), 3);
            same("the entries", Check.entries(x), "a:3,ccc:3,dddd:4");
            due("join(1)", x.join(1), 7);
            same("the entries", Check.entries(x), "a:3,ccc:7");
            due("join(0)", x.join(0), 10);
            same("the entries", Check.entries(x), "a:10");
            due("find() of the dropped", withPad(x, "bb").find(), NONE);
        });
        edge("it gets the lines of that, too, which is dropped", "the pages with it: a head, a break and a page less", () -> {
            Heads x = lexicon("a:5,b:8,c:1");
            due("join(0)", x.join(0), 13);
            laidAs(x, lexicon("a:13,c:1"));
            x = lexicon(6, 4, 3, "ab:3,cde:2");
            due("pages", x.count(4), 2);
            due("join(0)", x.join(0), 5);
            laidAs(x, lexicon(6, 4, 3, "ab:5"));
            due("pages", x.count(4), 1);
        });
        edge("Joins an entry with the next one", "the one behind it, not the one ahead", () -> {
            Heads x = lexicon("a:1,b:2,c:4");
            due("join(1)", x.join(1), 6);
            same("the entries", Check.entries(x), "a:1,b:6");
        });
        edge("Returns its lines then", "those of both, 2 and 40", () -> {
            due("join(0)", lexicon("a:1,b:1").join(0), 2);
            due("join(0)", lexicon("a:38,b:2").join(0), 40);
        });
        edge("This is a change.", "of the first two and the last two", () -> {
            changes(lexicon("a:1,b:2,c:3"), x -> x.join(0), 3);
            changes(lexicon("a:1,b:2,c:3"), x -> x.join(1), 5);
        });
    }

    // ---- promise 7

    private static void rename() {
        String place = "it stands where that belongs";
        edge(place, "ahead of all, behind all, between two, and where it stood", () -> {
            renamed(0, "a", 0, "a:1,d:2,f:3");
            renamed(2, "a", 0, "a:3,b:1,d:2");
            renamed(0, "z", 2, "d:2,f:3,z:1");
            renamed(2, "z", 2, "b:1,d:2,z:3");
            renamed(0, "e", 1, "d:2,e:1,f:3");
            renamed(2, "c", 1, "b:1,c:3,d:2");
            renamed(1, "c", 1, "b:1,c:2,f:3");
        });
        edge(place, "beside a word that it begins with, and one that begins with it", () -> {
            renamed(2, "ba", 1, "b:1,ba:3,d:2");
            renamed(0, "dzzzzzz", 1, "d:2,dzzzzzz:1,f:3");
        });
        edge(place, "the only one, and one of 30", () -> {
            due("rename(0)", withPad(lexicon("m:1"), "a").rename(0), 0);
            due("rename(0) of 30", withPad(many(30, 1), "zzzzzzz").rename(0), 29);
            due("rename(29) of 30", withPad(many(30, 1), "aa").rename(29), 1);
        });
        edge("Gives an entry the word of the pad", "one letter and seven letters, a and z", () -> {
            renamed(0, "z", 2, "d:2,f:3,z:1");
            renamed(0, "aaaaaaa", 0, "aaaaaaa:1,d:2,f:3");
            renamed(0, "zzzzzzz", 2, "d:2,f:3,zzzzzzz:1");
        });
        edge("Gives an entry the word of the pad", "the pages with it: its head is wider, and it stands on another page", () -> {
            Heads x = lexicon(6, 4, 3, "abcd:5,e:5");
            due("rename(0)", withPad(x, "abcde").rename(0), 0);
            laidAs(x, lexicon(6, 4, 3, "abcde:5,e:5"));
            due("pages", x.count(4), 3);
            x = lexicon("a:11,b:2,c:4");
            due("rename(0)", withPad(x, "d").rename(0), 2);
            laidAs(x, lexicon("b:2,c:4,d:11"));
        });
        edge("The pad is emptied.", "also if it is the word that it has", () -> {
            Heads x = withPad(lexicon("b:1"), "abcdefg");
            due("rename(0)", x.rename(0), 0);
            due("count(13)", x.count(13), 0);
            due("rename(0) again", x.rename(0), BAD_TEXT);
            due("rename(0) to its own word", withPad(x, "abcdefg").rename(0), 0);
            due("count(13)", x.count(13), 0);
        });
        edge("This is a change.", "also if it is the word that it has", () -> {
            changes(withPad(lexicon("b:1,c:2"), "b"), x -> x.rename(0), 0);
            changes(withPad(lexicon("b:1,c:2"), "d"), x -> x.rename(0), 1);
        });
        edge("Returns its number then", "which may be another one", () -> {
            due("rename(0) to the last", withPad(lexicon("a:1,b:2,c:3"), "d").rename(0), 2);
            due("rename(2) to the first", withPad(lexicon("b:1,c:2,d:3"), "a").rename(2), 0);
        });
    }

    private static void renamed(int entry, String word, int want, String entries) {
        Heads x = withPad(lexicon("b:1,d:2,f:3"), word);
        due("rename(" + entry + ") to " + word, x.rename(entry), want);
        same("the entries", Check.entries(x), entries);
    }

    private static void renameErrors() {
        edge("NO_SUCH if there is no such entry", "the first and the last, and one beside them", () -> {
            due("rename(0)", withPad(lexicon("b:1,c:2"), "a").rename(0), 0);
            due("rename(1)", withPad(lexicon("b:1,c:2"), "d").rename(1), 1);
            refused("rename(-1)", "q", x -> x.rename(-1), NO_SUCH);
            refused("rename(3)", "q", x -> x.rename(3), NO_SUCH);
        });
        edge("NO_SUCH if there is no such entry", "no entries, and the smallest and the largest int", () -> {
            due("rename(0)", padOnly("a").rename(0), NO_SUCH);
            refused("rename(LOW)", "q", x -> x.rename(LOW), NO_SUCH);
            refused("rename(HIGH)", "q", x -> x.rename(HIGH), NO_SUCH);
        });
        edge("BAD_TEXT if the pad is not one to seven letters a to z", "none, eight, and other signs", () -> {
            for (String text : NO_WORDS) {
                refused("rename(0) to \"" + text + "\"", text, x -> x.rename(0), BAD_TEXT);
            }
        });
        edge("BAD_TEXT if the pad is not one to seven letters a to z", "a full pad", () -> {
            Heads x = lexicon("m:1");
            for (int length = 1; length <= 60; length++) {
                due("put", x.put('a'), length);
            }
            due("rename(0)", x.rename(0), BAD_TEXT);
            due("count(13)", x.count(13), 60);
        });
        String other = "NOT_POSSIBLE if another entry has this word.";
        edge(other, "the one ahead, the one behind, the first and the last", () -> {
            unchanged("rename(1) to b", () -> withPad(lexicon("b:1,d:2,f:3"), "b"), x -> x.rename(1), NOT_POSSIBLE);
            unchanged("rename(1) to f", () -> withPad(lexicon("b:1,d:2,f:3"), "f"), x -> x.rename(1), NOT_POSSIBLE);
            unchanged("rename(0) to f", () -> withPad(lexicon("b:1,d:2,f:3"), "f"), x -> x.rename(0), NOT_POSSIBLE);
            unchanged("rename(2) to b", () -> withPad(lexicon("b:1,d:2,f:3"), "b"), x -> x.rename(2), NOT_POSSIBLE);
        });
        edge(other, "itself is no other one", () -> {
            renamed(0, "b", 0, "b:1,d:2,f:3");
            renamed(1, "d", 1, "b:1,d:2,f:3");
            renamed(2, "f", 2, "b:1,d:2,f:3");
        });
        edge(other, "a word that begins with that of another one is not its word", () -> {
            renamed(0, "dd", 1, "d:2,dd:1,f:3");
            due("rename(0)", withPad(lexicon("a:1,bcdefgh:2"), "bcdefg").rename(0), 0);
        });
    }
}
