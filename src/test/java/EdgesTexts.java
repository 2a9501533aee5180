/** Terms, Texts: how long the pad is, what can be read, and where the fault is. */
final class EdgesTexts extends Edges {
    static void all() {
        part("Texts");
        length();
        entries();
        words();
        lines();
        fault();
        tooEarly();
        constants();
        nothingChanges();
    }

    private static void faultOf(String text, int want) {
        due("fault() of \"" + text + "\"", padOnly(text).fault(), want);
    }

    private static void length() {
        String sentence = "The pad is a text of at most 60 characters";
        edge(sentence, "the 60th character, and the 61st", () -> {
            Heads x = padOnly(FIFTY_NINE);
            due("put of the 60th", x.put('2'), 60);
            due("put of the 61st", x.put('3'), TOO_MANY);
            due("count(13)", x.count(13), 60);
            due("read() of 60 characters", x.read(), 15);
            due("lines of the last entry", x.entry(14, 0), 12);
        });
        edge(sentence, "none", () -> {
            due("count(13)", new Heads().count(13), 0);
            due("wipe()", new Heads().wipe(), 0);
        });
    }

    private static void entries() {
        edge("entries: text = entry { \",\" entry }", "no entry, one, two, and as many as there is room for", () -> {
            faultOf("", 0);
            faultOf("a:1", NONE);
            faultOf("a:1,b:1", NONE);
            faultOf(FIFTY_NINE, NONE);
        });
        edge("text = entry { \",\" entry }", "no entry ahead of a comma, between two, and behind one", () -> {
            faultOf(",a:1", 0);
            faultOf("a:1,,b:1", 4);
            faultOf("a:1,", 4);
        });
        edge("text = entry { \",\" entry }", "other signs between entries", () -> {
            faultOf("a:1;b:1", 3);
            faultOf("a:1.b:1", 3);
            faultOf("a:1b:1", 3);
            faultOf("a:1:1", 3);
        });
        edge("entry = word \":\" lines", "without each of the three, and with one twice", () -> {
            faultOf(":1", 0);
            faultOf("a1", 1);
            faultOf("a,", 1);
            faultOf("a:,", 2);
            faultOf("a::1", 2);
            faultOf("a;1", 1);
        });
    }

    private static void words() {
        String sentence = "a word is one to seven letters a to z";
        edge(sentence, "one letter, seven, and eight, as the first word and as a later one", () -> {
            faultOf("a:1", NONE);
            faultOf("abcdefg:1", NONE);
            faultOf("abcdefgh:1", 7);
            faultOf("a:1,b:1", NONE);
            faultOf("a:1,abcdefg:1", NONE);
            faultOf("a:1,abcdefgh:1", 11);
        });
        edge(sentence, "a and z, and what stands beside them, as the first letter and the last", () -> {
            faultOf("azaz:1", NONE);
            for (String sign : new String[] {"`", "{", "A", "Z", "@", "[", "!", "~"}) {
                faultOf(sign + ":1", 0);
                faultOf("abcdef" + sign + ":1", 6);
            }
        });
    }

    private static void lines() {
        String sentence = "lines are a number from 1 to 40 without leading zeros";
        edge(sentence, "each number from 1 to 40", () -> {
            for (int lines = 1; lines <= 40; lines++) {
                faultOf("a:" + lines, NONE);
                faultOf("a:1,b:" + lines, NONE);
                due("lines that are read", lexicon("a:" + lines).entry(0, 0), lines);
            }
        });
        edge(sentence, "0, and 41 to 99", () -> {
            faultOf("a:0", 2);
            for (int lines = 41; lines <= 99; lines++) {
                faultOf("a:" + lines, 3);
                faultOf("a:1,b:" + lines, 7);
            }
        });
        edge(sentence, "three digits", () -> {
            faultOf("a:100", 4);
            faultOf("a:390", 4);
            faultOf("a:400", 4);
        });
        edge("without leading zeros", "0 ahead of each digit", () -> {
            for (int digit = 0; digit <= 9; digit++) {
                faultOf("a:0" + digit, 2);
                faultOf("a:1,b:0" + digit, 6);
            }
        });
        edge(sentence, "what stands beside the digits, and signs of numbers", () -> {
            for (String sign : new String[] {"/", ":", "+", "-", "a", "!", "~"}) {
                faultOf("a:" + sign, 2);
                faultOf("a:1" + sign, 3);
            }
        });
    }

    private static void fault() {
        String sentence = "The fault is the index of the first character that cannot stand at its place when the text is read"
            + " from left to right";
        edge(sentence, "the first character, the last, and the last of 60", () -> {
            faultOf("1", 0);
            faultOf("a:1,1", 4);
            faultOf(FIFTY_NINE + "!", 59);
            faultOf(FIFTY_NINE + ",", 60);
            faultOf(FIFTY_NINE + "0", NONE);
        });
        edge(sentence, "the first of several", () -> {
            faultOf("a:1,B:0,c", 4);
            faultOf("!!!", 0);
            faultOf("a:41,b:41", 3);
        });
        edge(sentence, "not where a number became too large, but at the digit that makes it so", () -> {
            faultOf("a:4", NONE);
            faultOf("a:40", NONE);
            faultOf("a:41", 3);
            faultOf("a:5", NONE);
            faultOf("a:50", 3);
        });
        edge("(words that stand twice are no fault)", "twice, and in an entry that stands", () -> {
            faultOf("a:1,a:2", NONE);
            due("fault() of a word that stands", withPad(lexicon("a:1"), "a:2").fault(), NONE);
            due("fault() of a 31st word", withPad(many(30, 1), "aa:1").fault(), NONE);
        });
    }

    private static void tooEarly() {
        String sentence = "if there is none and the text ends too early (also if it is empty), it is the length of the text";
        edge(sentence, "empty, from the first, and when it is wiped or read", () -> {
            due("fault() of a new one", new Heads().fault(), 0);
            Heads x = padOnly("a:1");
            due("wipe()", x.wipe(), 3);
            due("fault() behind wipe", x.fault(), 0);
            due("read()", withPad(x, "a:1").read(), 1);
            due("fault() behind read", x.fault(), 0);
        });
        edge(sentence, "behind a letter, a colon and a comma", () -> {
            faultOf("a", 1);
            faultOf("abcdefg", 7);
            faultOf("a:", 2);
            faultOf("a:1,", 4);
            faultOf("a:1,b", 5);
            faultOf("a:1,b:", 6);
        });
        edge(sentence, "with 60 characters", () -> {
            faultOf(FIFTY_NINE + ",", 60);
            faultOf("a:1,b:1,c:1,d:1,e:1,f:1,g:1,h:1,i:1,j:1,k:1,l:1,m:1,n:1,abcd", 60);
            faultOf("a:1,b:1,c:1,d:1,e:1,f:1,g:1,h:1,i:1,j:1,k:1,l:1,m:1,n:1,abc:", 60);
        });
    }

    private static void constants() {
        edge("`NO_SUCH = -1, BAD_VALUE = -2, BAD_TEXT = -3, TOO_MANY = -4, NOT_POSSIBLE = -5, NONE = -6`", "NONE is behind the errors",
            () -> due("NONE", RunningHeads.NONE, RunningHeads.NOT_POSSIBLE - 1));
        edge("`LINES = 0, WIDTH = 1, KEEP = 2`: Settings.", "count tells each by its number", () -> {
            Heads x = lexicon(7, 8, 3);
            due("count(LINES)", x.count(RunningHeads.LINES), 7);
            due("count(WIDTH)", x.count(RunningHeads.WIDTH), 8);
            due("count(KEEP)", x.count(RunningHeads.KEEP), 3);
        });
    }

    /** Each question, of a busy object; with NONE and with a number. */
    private static void nothingChanges() {
        String questions = "Ahead of the calls `entry`, `page`, `fold`, `count`, `lookFor`, `find` the interface says:"
            + " ---- entries, pages; nothing changes.";
        edge(questions, "entry and page", () -> {
            unchanged("entry(1, 0)", () -> busy("q:1"), x -> x.entry(1, 0), 9);
            unchanged("entry(0, 7)", () -> busy("q:1"), x -> x.entry(0, 7), NONE);
            unchanged("page(0, 0)", () -> busy("q:1"), x -> x.page(0, 0), 0);
            unchanged("page(0, 99)", () -> busy("q:1"), x -> x.page(0, 99), NONE);
        });
        edge(questions, "fold and count", () -> {
            unchanged("fold(0, true)", () -> busy("q:1"), x -> x.fold(0, true), 0);
            unchanged("fold(0, false) without a right page", () -> calm("q:1"), x -> x.fold(0, false), NONE);
            unchanged("count(3)", () -> busy("q:1"), x -> x.count(3), 3);
            unchanged("count(14)", () -> busy("q:1"), x -> x.count(14), 6);
        });
        edge(questions, "lookFor and find", () -> {
            unchanged("lookFor()", () -> busy("a"), Heads::lookFor, 0);
            unchanged("lookFor() without pages", () -> padOnly("a"), Heads::lookFor, NONE);
            unchanged("find()", () -> busy("bb"), Heads::find, 1);
            unchanged("find() of none", () -> busy("b"), Heads::find, NONE);
        });
        String whatIfs = "Ahead of the calls `ifSet`, `leastLines`, `bestLines` the interface says: ---- what if; nothing changes.";
        edge(whatIfs, "ifSet of each setting, with the least value and the largest", () -> {
            for (int setting = LINES; setting <= KEEP; setting++) {
                int of = setting;
                for (int value : new int[] {LEAST[setting], MOST[setting]}) {
                    int pages = busy("q:1").ifSet(of, value);
                    unchanged("ifSet(" + of + ", " + value + ")", () -> busy("q:1"), x -> x.ifSet(of, value), pages);
                }
            }
        });
        edge(whatIfs, "leastLines and bestLines, with a number and NONE", () -> {
            unchanged("leastLines(1)", () -> busy("q:1"), x -> x.leastLines(1), 23);
            unchanged("leastLines(1) of 40 lines", () -> lexicon("a:40"), x -> x.leastLines(1), NONE);
            unchanged("bestLines(1)", () -> lexicon("a:20"), x -> x.bestLines(1), 0);
            unchanged("bestLines(0)", () -> lexicon("a:20"), x -> x.bestLines(0), 6);
        });
        edge("Ahead of the calls `put`, `wipe`, `fault` the interface says: ---- texts.", "fault, of each kind of pad", () -> {
            unchanged("fault() of none", () -> busy("q:1"), Heads::fault, NONE);
            unchanged("fault() of an empty pad", () -> busy(""), Heads::fault, 0);
            unchanged("fault() of a begun pad", () -> busy("q:1,r"), Heads::fault, 5);
        });
    }
}
