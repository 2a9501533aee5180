/** Terms, Entries: how many, their words, lines and order. */
final class EdgesEntries extends Edges {
    static void all() {
        part("Entries");
        howMany();
        words();
        lines();
        order();
    }

    private static void howMany() {
        String sentence = "There are up to 30 entries";
        edge(sentence, "the 30th, and the 31st", () -> {
            Heads x = many(29, 1);
            due("read() of the 30th", withPad(x, "zzz:1").read(), 30);
            due("count(3)", x.count(3), 30);
            due("read() of the 31st", withPad(x, "zzzz:1").read(), TOO_MANY);
            due("count(3)", x.count(3), 30);
        });
        edge(sentence, "all 30 places taken: each call goes on as ever", () -> {
            Heads x = many(30, 1);
            due("the last one", x.entry(29, 7), 'd');
            due("change(29, 40)", x.change(29, 40), 1);
            due("rename(29)", withPad(x, "aa").rename(29), 1);
            due("save(0)", x.save(0), 30);
            due("join(0) to 41 lines", x.join(0), TOO_MANY);
            due("drop(29)", x.drop(29), 1);
            due("undo()", x.undo(), 5);
            due("count(3)", x.count(3), 30);
            due("join(28)", x.join(28), 2);
            due("restore(0)", x.restore(0), 30);
            due("find() of the renamed", withPad(x, "aa").find(), 1);
        });
        edge(sentence, "none: no entry answers", () -> {
            Heads x = new Heads();
            due("count(3)", x.count(3), 0);
            due("entry(0, 0)", x.entry(0, 0), NO_SUCH);
            due("change(0, 1)", x.change(0, 1), NO_SUCH);
            due("drop(0)", x.drop(0), NO_SUCH);
            due("join(0)", x.join(0), NO_SUCH);
            due("rename(0)", withPad(x, "a").rename(0), NO_SUCH);
        });
        edge(sentence, "dropped ones leave their places free", () -> {
            Heads x = many(30, 1);
            due("drop(0)", x.drop(0), 1);
            due("read() of a 30th", withPad(x, "a:7").read(), 30);
            due("join(0)", x.join(0), 8);
            due("read() of a 30th", withPad(x, "b:7").read(), 30);
            due("read() of a 31st", withPad(x, "bb:7").read(), TOO_MANY);
        });
    }

    private static void words() {
        String sentence = "one to seven letters a to z";
        edge(sentence, "one letter, and none", () -> {
            Heads x = new Heads();
            due("read() of a word without letters", withPad(x, ":1").read(), BAD_TEXT);
            due("read() of one letter", withPad(x, "q:1").read(), 1);
            due("its letters", x.entry(0, 5), 1);
        });
        edge(sentence, "seven letters, and eight", () -> {
            Heads x = new Heads();
            due("read() of eight letters", withPad(x, "abcdefgh:1").read(), BAD_TEXT);
            due("read() of seven letters", withPad(x, "abcdefg:1").read(), 1);
            due("its letters", x.entry(0, 5), 7);
        });
        edge(sentence, "each letter from a to z, and what stands beside them", () -> {
            Heads x = new Heads();
            for (char letter = 'a'; letter <= 'z'; letter++) {
                due("read() of " + letter, withPad(x, letter + ":1").read(), letter - 'a' + 1);
            }
            for (String sign : new String[] {"`", "{", "A", "Z", "@", "[", "0", "9", "-", "!", "~"}) {
                due("read() of " + sign, withPad(x, sign + ":1").read(), BAD_TEXT);
                due("read() of a" + sign, withPad(x, "a" + sign + ":1").read(), BAD_TEXT);
            }
        });
        edge("no word stands twice", "read and rename leave one entry of a word", () -> {
            Heads x = lexicon("a:1,b:2");
            due("read() of a word that stands", withPad(x, "b:3").read(), 2);
            due("read() of a word twice", withPad(x, "c:3,c:4").read(), 3);
            due("rename(0) to a word that stands", withPad(x, "c").rename(0), NOT_POSSIBLE);
            same("the entries", Check.entries(x), "a:1,b:3,c:4");
        });
    }

    private static void lines() {
        String sentence = "and 1 to 40 lines";
        edge(sentence, "1, and 0", () -> {
            Heads x = new Heads();
            due("read() of 0 lines", withPad(x, "a:0").read(), BAD_TEXT);
            due("read() of 1 line", withPad(x, "a:1").read(), 1);
            due("change to 0 lines", x.change(0, 0), BAD_VALUE);
            due("change to 1 line", x.change(0, 1), 1);
        });
        edge(sentence, "40, and 41", () -> {
            Heads x = new Heads();
            due("read() of 41 lines", withPad(x, "a:41").read(), BAD_TEXT);
            due("read() of 40 lines", withPad(x, "a:40").read(), 1);
            due("change to 41 lines", x.change(0, 41), BAD_VALUE);
            due("change to 40 lines", x.change(0, 40), 40);
            due("read() of 1 line more", withPad(x, "b:1").read(), 2);
            due("join to 41 lines", x.join(0), TOO_MANY);
            due("change to 39 lines", x.change(0, 39), 40);
            due("join to 40 lines", x.join(0), 40);
        });
    }

    private static void order() {
        String sentence = "They stand in the order of their words, as in a lexicon";
        edge(sentence, "read from behind, and differing in the first, a middle and the last letter", () -> {
            Heads x = lexicon("zaaaaaa:1,babaaaa:2,baaaaab:3,baaaaaa:4,aaaaaaz:5");
            same("the entries", Check.entries(x), "aaaaaaz:5,baaaaaa:4,baaaaab:3,babaaaa:2,zaaaaaa:1");
        });
        edge(sentence, "a long word ahead of a short one", () ->
            same("the entries", Check.entries(lexicon("b:1,azzzzzz:2,az:3")), "az:3,azzzzzz:2,b:1"));
        edge("(a word that another one begins with stands ahead of it)", "from one letter to seven", () -> {
            Heads x = lexicon("aaaaaaa:7,aaaaaa:6,aaaaa:5,aaaa:4,aaa:3,aa:2,a:1");
            for (int entry = 0; entry < 7; entry++) {
                due("lines of entry " + entry, x.entry(entry, 0), entry + 1);
            }
            due("read() of one between", withPad(x, "aaab:8").read(), 8);
            due("its number", withPad(x, "aaab").find(), 7);
            x = lexicon("zzzzzzz:7,zzzzzz:6");
            due("lines of entry 0", x.entry(0, 0), 6);
        });
        edge("They are numbered in this order.", "the first, the last, and none beside them", () -> {
            Heads x = many(30, 1);
            due("entry(-1, 6)", x.entry(-1, 6), NO_SUCH);
            due("entry(0, 6)", x.entry(0, 6), 'a');
            due("entry(25, 6)", x.entry(25, 6), 'z');
            due("entry(29, 7)", x.entry(29, 7), 'd');
            due("entry(30, 6)", x.entry(30, 6), NO_SUCH);
            due("read() of a new first one", withPad(lexicon("b:1,c:2"), "a:3").read(), 3);
            same("the entries", Check.entries(lexicon("b:1,c:2", "a:3")), "a:3,b:1,c:2");
        });
    }
}
