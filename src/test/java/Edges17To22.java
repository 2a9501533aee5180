/** Promises 17 to 22: texts, undo and saved states. */
final class Edges17To22 extends Edges {
    static void all() {
        part("Promise 17: put");
        put();
        putCodes();
        putTooMany();
        part("Promise 18: wipe");
        wipe();
        part("Promise 19: fault");
        fault();
        part("Promise 20: undo");
        undo();
        undoWhat();
        records();
        part("Promise 21: save");
        save();
        part("Promise 22: restore");
        restore();
        restoreErrors();
    }

    // ---- promise 17

    private static void put() {
        String one = "1 to 8 characters";
        edge(one, "one, and none", () -> {
            due("put of one", new Heads().put('a'), 1);
            due("put of none", new Heads().put(0), BAD_VALUE);
        });
        edge(one, "each number of them up to eight", () -> {
            for (int length = 1; length <= 8; length++) {
                due("put of " + length, new Heads().put(Check.packed("abcdefgh".substring(0, length))), length);
            }
        });
        String order = "its lowest 8 bits are the last character, the next 8 bits the one before, and so on";
        edge(order, "two, and eight", () -> {
            Heads x = new Heads();
            due("put of b and a", x.put('b' << 8 | 'a'), 2);
            due("put of :1", x.put(':' << 8 | '1'), 4);
            due("read()", x.read(), 1);
            same("the entry", Check.entries(x), "ba:1");
            x = new Heads();
            due("put of eight", x.put(0x676665646362613aL), 8);
            due("put of 40", x.put('4' << 8 | '0'), 10);
            due("read()", x.read(), 1);
            same("the entry", Check.entries(x), "gfedcba:40");
        });
        edge("Appends characters to the pad.", "to an empty one, to a begun one, to one that was wiped or read", () -> {
            Heads x = new Heads();
            due("put(a)", x.put('a'), 1);
            due("put(b)", x.put('b'), 2);
            due("wipe()", x.wipe(), 2);
            due("put(c:1)", x.put(Check.packed("c:1")), 3);
            due("read()", x.read(), 1);
            due("put(d:2)", x.put(Check.packed("d:2")), 3);
            due("read()", x.read(), 2);
            same("the entries", Check.entries(x), "c:1,d:2");
        });
        edge("Returns the length of the pad then", "1 and 60", () -> {
            due("put into an empty pad", new Heads().put('a'), 1);
            due("put of the 60th", padOnly(FIFTY_NINE).put('0'), 60);
        });
    }

    private static void putCodes() {
        String code = "a code is not 33 to 126";
        edge(code, "33 and 126, 32 and 127", () -> {
            due("put(33)", new Heads().put(33), 1);
            due("put(126)", new Heads().put(126), 1);
            refused("put(32)", "q", x -> x.put(32), BAD_VALUE);
            refused("put(127)", "q", x -> x.put(127), BAD_VALUE);
        });
        edge(code, "each of the 256 codes, as the only character", () -> {
            for (int sign = 0; sign < 256; sign++) {
                due("put(" + sign + ")", new Heads().put(sign), sign >= 33 && sign <= 126 ? 1 : BAD_VALUE);
            }
        });
        edge(code, "32, 127, 128 and 255 at each of eight places", () -> {
            for (int place = 0; place < 8; place++) {
                for (long sign : new long[] {1, 32, 127, 128, 255}) {
                    long characters = 0x6161616161616161L & ~(255L << 8 * place) | sign << 8 * place;
                    due("put(" + Long.toHexString(characters) + ")", new Heads().put(characters), BAD_VALUE);
                }
                for (long sign : new long[] {33, 126}) {
                    long characters = 0x6161616161616161L & ~(255L << 8 * place) | sign << 8 * place;
                    due("put(" + Long.toHexString(characters) + ")", new Heads().put(characters), 8);
                }
            }
        });
        String zero = "8 bits that are 0 mean that there are no more characters, and everything above them has to be 0, too";
        edge(zero, "0 at each of eight places, with characters above and below", () -> {
            for (int place = 0; place < 8; place++) {
                long characters = 0x6161616161616161L & ~(255L << 8 * place);
                int want = place == 7 ? 7 : BAD_VALUE;
                due("put(" + Long.toHexString(characters) + ")", new Heads().put(characters), want);
            }
        });
        String bit = "or a bit above 8 bits that are 0 is not 0";
        edge(bit, "each bit above a character and 8 bits that are 0", () -> {
            for (int above = 16; above < 64; above++) {
                long characters = 'a' | 1L << above;
                due("put(" + Long.toHexString(characters) + ")", new Heads().put(characters), BAD_VALUE);
            }
        });
        String none = "BAD_VALUE if there is no character";
        edge(none, "0, and 8 bits that are 0 below a character", () -> {
            refused("put(0)", "q", x -> x.put(0), BAD_VALUE);
            refused("put(a << 8)", "q", x -> x.put('a' << 8), BAD_VALUE);
            refused("put(a << 56)", "q", x -> x.put((long) 'a' << 56), BAD_VALUE);
        });
        edge("BAD_VALUE if there is no character, a code is not 33 to 126", "the smallest and the largest long, -1, and ints", () -> {
            for (long far : new long[] {Long.MIN_VALUE, Long.MAX_VALUE, -1, Long.MIN_VALUE + 'a', -'a', LOW, HIGH, 1L << 32}) {
                refused("put(" + far + ")", "q", x -> x.put(far), BAD_VALUE);
            }
        });
        edge("BAD_VALUE if there is no character, a code is not 33 to 126", "the largest and the smallest of eight characters", () -> {
            due("put of eight times 126", new Heads().put(0x7e7e7e7e7e7e7e7eL), 8);
            due("put of eight times 33", new Heads().put(0x2121212121212121L), 8);
        });
    }

    private static void putTooMany() {
        String sentence = "TOO_MANY if the pad would be longer than 60.";
        edge(sentence, "59 and one, 60 and one", () -> {
            Heads x = padOnly(FIFTY_NINE);
            due("put of the 60th", x.put('1'), 60);
            due("put of the 61st", x.put('1'), TOO_MANY);
            due("count(13)", x.count(13), 60);
        });
        edge(sentence, "52 and eight, 53 and eight", () -> {
            Heads x = padOnly(FIFTY_NINE.substring(0, 52));
            due("put of eight", x.put(Check.packed("abcdefg:")), 60);
            x = padOnly(FIFTY_NINE.substring(0, 53));
            due("put of eight", x.put(Check.packed("abcdefg:")), TOO_MANY);
            due("count(13)", x.count(13), 53);
        });
        edge(sentence, "none of the characters comes, though some would fit", () -> {
            Heads x = padOnly(FIFTY_NINE);
            due("put of two", x.put('1' << 8 | '2'), TOO_MANY);
            due("count(13)", x.count(13), 59);
            due("put of one", x.put('2'), 60);
            due("read()", x.read(), 15);
            due("lines of the last", x.entry(14, 0), 12);
        });
        edge(sentence, "a full pad that is wiped, and one that is read, take characters again", () -> {
            Heads x = padOnly(FIFTY_NINE + "1");
            due("wipe()", x.wipe(), 60);
            due("put of eight", x.put(0x7e7e7e7e7e7e7e7eL), 8);
            x = padOnly(FIFTY_NINE + "1");
            due("read()", x.read(), 15);
            due("put of eight", x.put(0x7e7e7e7e7e7e7e7eL), 8);
        });
    }

    // ---- promises 18 and 19

    private static void wipe() {
        String sentence = "Empties the pad, and returns the length that it had.";
        edge(sentence, "an empty one, one character, and 60", () -> {
            due("wipe() of an empty one", new Heads().wipe(), 0);
            due("wipe() of one", padOnly("a").wipe(), 1);
            Heads x = padOnly(FIFTY_NINE + "1");
            due("wipe() of 60", x.wipe(), 60);
            due("count(13)", x.count(13), 0);
            due("fault()", x.fault(), 0);
            due("wipe() again", x.wipe(), 0);
        });
        edge(sentence, "signs that can't be read, too", () -> {
            Heads x = padOnly("!!~~");
            due("wipe()", x.wipe(), 4);
            due("fault()", x.fault(), 0);
        });
        edge(sentence, "and nothing else changes", () -> Twins.alike("wipe()", () -> {
            Heads x = busy("q:1,r");
            due("wipe()", x.wipe(), 5);
            return x;
        }, () -> busy("")));
        edge(sentence, "of an empty one nothing changes at all", () -> unchanged("wipe()", () -> busy(""), Heads::wipe, 0));
    }

    private static void fault() {
        String sentence = "Returns the fault of the pad, NONE if there is none.";
        edge(sentence, "none in the shortest text, nor in the longest", () -> {
            due("fault()", padOnly("a:1").fault(), NONE);
            due("fault()", padOnly(FIFTY_NINE + "1").fault(), NONE);
        });
        edge(sentence, "0 in an empty pad and at the first character, 59 at the last, 60 behind it", () -> {
            due("fault()", new Heads().fault(), 0);
            due("fault()", padOnly("!").fault(), 0);
            due("fault()", padOnly(FIFTY_NINE + "~").fault(), 59);
            due("fault()", padOnly(FIFTY_NINE + ",").fault(), 60);
        });
        edge(sentence, "the pad stays", () -> {
            Heads x = padOnly("a:1");
            due("fault()", x.fault(), NONE);
            due("count(13)", x.count(13), 3);
            due("put", x.put(','), 4);
            due("fault()", x.fault(), 4);
            due("put", x.put(','), 5);
            due("fault()", x.fault(), 4);
        });
    }

    // ---- promise 20

    private static void undo() {
        String none = "NOT_POSSIBLE if there is none.";
        edge(none, "a new object, and one of which all is undone", () -> {
            due("undo()", new Heads().undo(), NOT_POSSIBLE);
            Heads x = lexicon("a:1");
            due("undo()", x.undo(), 0);
            due("undo()", x.undo(), NOT_POSSIBLE);
            due("undo()", x.undo(), NOT_POSSIBLE);
            due("count(14)", x.count(14), 0);
            due("count(3)", x.count(3), 0);
        });
        String six = "A history of at most 6 states is kept";
        edge(six, "six changes, all of which can be undone", () -> {
            Heads x = new Heads();
            for (int lines = 13; lines <= 18; lines++) {
                due("set(LINES, " + lines + ")", x.set(LINES, lines), lines - 1);
            }
            for (int left = 5; left >= 0; left--) {
                due("undo()", x.undo(), left);
                due("count(0)", x.count(0), 12 + left);
            }
            due("undo()", x.undo(), NOT_POSSIBLE);
            due("count(0)", x.count(0), 12);
        });
        String oldest = "when one more is recorded, the oldest one is dropped";
        edge(oldest, "seven changes, of which the first can't be undone", () -> {
            Heads x = new Heads();
            for (int lines = 13; lines <= 19; lines++) {
                due("set(LINES, " + lines + ")", x.set(LINES, lines), lines - 1);
                due("count(14)", x.count(14), Math.min(6, lines - 12));
            }
            for (int left = 5; left >= 0; left--) {
                due("undo()", x.undo(), left);
                due("count(0)", x.count(0), 13 + left);
            }
            due("undo()", x.undo(), NOT_POSSIBLE);
            due("count(0)", x.count(0), 13);
        });
        edge(oldest, "more than twice as many changes as there are places", () -> {
            Heads x = new Heads();
            for (int lines = 13; lines <= 32; lines++) {
                due("set(LINES, " + lines + ")", x.set(LINES, lines), lines - 1);
            }
            for (int left = 5; left >= 0; left--) {
                due("undo()", x.undo(), left);
                due("count(0)", x.count(0), 26 + left);
            }
            due("undo()", x.undo(), NOT_POSSIBLE);
        });
        edge(oldest, "changes and undos by turns", () -> {
            Heads x = new Heads();
            for (int lines = 13; lines <= 19; lines++) {
                due("set(LINES, " + lines + ")", x.set(LINES, lines), lines - 1);
            }
            due("undo()", x.undo(), 5);
            due("undo()", x.undo(), 4);
            for (int lines = 33; lines <= 35; lines++) {
                due("set(LINES, " + lines + ")", x.set(LINES, lines), lines == 33 ? 17 : lines - 1);
            }
            int[] want = {34, 33, 17, 16, 15, 14};
            for (int left = 5; left >= 0; left--) {
                due("undo()", x.undo(), left);
                due("count(0)", x.count(0), want[5 - left]);
            }
            due("undo()", x.undo(), NOT_POSSIBLE);
        });
        edge("Returns how many changes can be undone then", "5 of 6, and 0 of 1", () -> {
            Heads x = busy("");
            due("undo()", x.undo(), 5);
            due("count(14)", x.count(14), 5);
            due("undo()", lexicon("a:1").undo(), 0);
        });
    }

    private static void undoWhat() {
        String what = "everything except the pad, the slots and the history is as it was before it";
        edge(what, "entries, settings and pages, behind each kind of change", () -> {
            undone("set", "q:1", x -> x.set(LINES, 6), 7);
            undone("read", "q:1", Heads::read, 3);
            undone("change", "q:1", x -> x.change(0, 40), 5);
            undone("drop", "q:1", x -> x.drop(0), 5);
            undone("join", "q:1", x -> x.join(0), 13);
            undone("rename", "zz", x -> x.rename(0), 1);
            undone("restore", "q:1", x -> x.restore(0), 1);
        });
        edge(what, "the pad is not: what read and rename took stays away, what was put stays", () -> {
            Heads x = padOnly("a:1");
            due("read()", x.read(), 1);
            due("undo()", x.undo(), 0);
            due("count(13) behind read", x.count(13), 0);
            x = withPad(lexicon("a:1"), "b");
            due("rename(0)", x.rename(0), 0);
            due("undo()", x.undo(), 1);
            due("count(13) behind rename", x.count(13), 0);
            x = lexicon("a:1");
            due("set(KEEP, 3)", x.set(KEEP, 3), 2);
            due("put", x.put(Check.packed("b:2")), 3);
            due("undo()", x.undo(), 1);
            due("read() of what was put", x.read(), 2);
        });
        edge(what, "the slots are not: what was saved behind the change stays saved", () -> {
            Heads x = lexicon("a:1");
            due("save(0)", x.save(0), 1);
            due("change(0, 9)", x.change(0, 9), 1);
            due("save(0)", x.save(0), 1);
            due("save(1)", x.save(1), 1);
            due("undo()", x.undo(), 1);
            due("entry(0, 0)", x.entry(0, 0), 1);
            due("restore(0)", x.restore(0), 1);
            due("entry(0, 0)", x.entry(0, 0), 9);
            due("undo()", x.undo(), 1);
            due("restore(1)", x.restore(1), 1);
            due("entry(0, 0)", x.entry(0, 0), 9);
        });
        edge("Undoes the latest change", "not one before it; of 30 entries", () -> {
            Heads x = many(30, 1);
            due("change(29, 40)", x.change(29, 40), 1);
            due("drop(0)", x.drop(0), 1);
            due("undo()", x.undo(), 4);
            due("count(3)", x.count(3), 30);
            due("entry(29, 0)", x.entry(29, 0), 40);
            due("entry(0, 6)", x.entry(0, 6), 'a');
            due("undo()", x.undo(), 3);
            due("entry(29, 0)", x.entry(29, 0), 1);
        });
    }

    /** Behind the change and undo all is as before, but for the pad, which is wiped in both. */
    private static void undone(String name, String pad, Twins.Call change, int answer) {
        Twins.alike("undo() behind " + name, () -> {
            Heads x = savedAndChanged(pad);
            due(name, change.of(x), answer);
            due("undo()", x.undo(), 5);
            x.wipe();
            return x;
        }, () -> {
            Heads x = savedAndChanged(pad);
            x.wipe();
            return x;
        });
    }

    private static Heads savedAndChanged(String pad) {
        Heads x = lexicon(7, 5, 3, "a:5");
        due("save(0)", x.save(0), 1);
        due("read()", withPad(x, "bb:8").read(), 2);
        Check.put(x, pad);
        return x;
    }

    private static void records() {
        String sentence = "each method that is a change, and returns no error, records the state before it (also if nothing is"
            + " different then)";
        edge(sentence, "each of the seven, with something different", () -> {
            Heads x = new Heads();
            due("set", x.set(LINES, 13), 12);
            due("count(14)", x.count(14), 1);
            due("read", withPad(x, "a:1,b:2,c:3").read(), 3);
            due("count(14)", x.count(14), 2);
            due("change", x.change(0, 2), 1);
            due("count(14)", x.count(14), 3);
            due("drop", x.drop(2), 3);
            due("count(14)", x.count(14), 4);
            due("join", x.join(0), 4);
            due("count(14)", x.count(14), 5);
            due("rename", withPad(x, "z").rename(0), 0);
            due("count(14)", x.count(14), 6);
            x = lexicon("a:1");
            due("save", x.save(1), 1);
            due("restore", x.restore(1), 1);
            due("count(14)", x.count(14), 2);
        });
        edge(sentence, "each that can leave all as it is: set, read, change, rename and restore", () -> {
            Heads x = lexicon("a:1");
            due("save", x.save(0), 1);
            due("set", x.set(KEEP, 2), 2);
            due("count(14)", x.count(14), 2);
            due("read", withPad(x, "a:1").read(), 1);
            due("count(14)", x.count(14), 3);
            due("change", x.change(0, 1), 1);
            due("count(14)", x.count(14), 4);
            due("rename", withPad(x, "a").rename(0), 0);
            due("count(14)", x.count(14), 5);
            due("restore", x.restore(0), 1);
            due("count(14)", x.count(14), 6);
            same("the state", Check.state(x), "12 12 2 a:1");
        });
        edge(sentence, "a call that returns an error records nothing, and drops nothing of a full history", () -> {
            refused("set", "q:1,", x -> x.set(LINES, 5), BAD_VALUE);
            refused("read", "q:1,", Heads::read, BAD_TEXT);
            refused("change", "q:1,", x -> x.change(0, 0), BAD_VALUE);
            refused("drop", "q:1,", x -> x.drop(9), NO_SUCH);
            refused("join", "q:1,", x -> x.join(2), NO_SUCH);
            refused("rename", "q:1,", x -> x.rename(0), BAD_TEXT);
            refused("restore", "q:1,", x -> x.restore(2), BAD_VALUE);
        });
        edge(sentence, "put, wipe, save, undo and the questions are no changes", () -> {
            Heads x = lexicon("a:1", "b:1");
            due("put", x.put('a'), 1);
            due("fault", x.fault(), 1);
            due("find", x.find(), 0);
            due("lookFor", x.lookFor(), 0);
            due("wipe", x.wipe(), 1);
            due("save", x.save(0), 2);
            due("ifSet", x.ifSet(LINES, 6), 1);
            due("leastLines", x.leastLines(1), 6);
            due("bestLines", x.bestLines(0), 6);
            due("entry", x.entry(0, 0), 1);
            due("page", x.page(0, 0), 0);
            due("fold", x.fold(0, true), 1);
            due("count(14)", x.count(14), 2);
            due("undo", x.undo(), 1);
            due("count(14)", x.count(14), 1);
            due("undo", x.undo(), 0);
        });
    }

    // ---- promise 21

    private static void save() {
        String slot = "`slot`: 0 or 1";
        edge(slot, "both, each for itself, and those beside them", () -> {
            Heads x = lexicon("a:1");
            due("save(0)", x.save(0), 1);
            due("restore(1)", x.restore(1), NOT_POSSIBLE);
            due("change(0, 2)", x.change(0, 2), 1);
            due("save(1)", x.save(1), 1);
            due("save(-1)", x.save(-1), BAD_VALUE);
            due("save(2)", x.save(2), BAD_VALUE);
            due("restore(0)", x.restore(0), 1);
            due("entry(0, 0)", x.entry(0, 0), 1);
            due("restore(1)", x.restore(1), 1);
            due("entry(0, 0)", x.entry(0, 0), 2);
        });
        edge("BAD_VALUE if there is no such slot.", "-1, 2, and the smallest and the largest int", () -> {
            for (int none : new int[] {-1, 2, LOW, HIGH}) {
                refused("save(" + none + ")", "q:1", x -> x.save(none), BAD_VALUE);
            }
        });
        edge("Returns how many entries there are", "none, and 30", () -> {
            due("save(0) of none", new Heads().save(0), 0);
            due("save(1) of 30", many(30, 40).save(1), 30);
        });
        String all = "Saves everything except the pad, the history and the slots in a slot, and overwrites what was saved there";
        edge(all, "settings and entries, and what comes behind it does not touch it", () -> {
            Heads x = lexicon(6, 4, 3, "a:1,zzzzzzz:40");
            due("save(0)", x.save(0), 2);
            due("change(0, 2)", x.change(0, 2), 1);
            due("drop(1)", x.drop(1), 40);
            due("set(LINES, 7)", x.set(LINES, 7), 6);
            due("set(WIDTH, 5)", x.set(WIDTH, 5), 4);
            due("set(KEEP, 1)", x.set(KEEP, 1), 3);
            due("restore(0)", x.restore(0), 2);
            same("the state", Check.state(x), "6 4 3 a:1,zzzzzzz:40");
        });
        edge(all, "more entries over fewer, and fewer over more", () -> {
            Heads x = lexicon("a:1");
            due("save(0)", x.save(0), 1);
            due("read()", withPad(x, "b:2,c:3").read(), 3);
            due("save(0)", x.save(0), 3);
            due("drop(0)", x.drop(0), 1);
            due("restore(0)", x.restore(0), 3);
            same("the state", Check.state(x), "12 12 2 a:1,b:2,c:3");
            due("drop(0)", x.drop(0), 1);
            due("drop(0)", x.drop(0), 2);
            due("save(0)", x.save(0), 1);
            due("undo()", x.undo(), 5);
            due("restore(0)", x.restore(0), 1);
            same("the state", Check.state(x), "12 12 2 c:3");
        });
        edge(all, "an empty lexicon over a full one", () -> {
            Heads x = new Heads();
            due("save(1)", x.save(1), 0);
            due("read()", withPad(x, "a:1").read(), 1);
            due("restore(1)", x.restore(1), 0);
            due("count(3)", x.count(3), 0);
            due("count(4)", x.count(4), 0);
        });
        edge(all, "the pad and the history stay", () -> {
            unchanged("save(0) of what is saved there", () -> {
                Heads x = busy("q:1,r");
                due("save(0)", x.save(0), 3);
                return x;
            }, x -> x.save(0), 3);
            Heads x = busy("q:1,r");
            due("save(1)", x.save(1), 3);
            due("count(13)", x.count(13), 5);
            due("count(14)", x.count(14), 6);
        });
    }

    // ---- promise 22

    private static void restore() {
        String what = "Restores what was saved last in a slot";
        edge(what, "of 30 entries, and of none", () -> {
            Heads x = many(30, 1);
            due("save(1)", x.save(1), 30);
            due("drop(0)", x.drop(0), 1);
            due("join(0)", x.join(0), 2);
            due("restore(1)", x.restore(1), 30);
            due("entry(0, 6)", x.entry(0, 6), 'a');
            due("entry(29, 7)", x.entry(29, 7), 'd');
            due("count(6)", x.count(6), 30);
            Heads y = new Heads();
            due("save(0)", y.save(0), 0);
            due("read()", withPad(y, "a:1").read(), 1);
            due("restore(0)", y.restore(0), 0);
            due("count(4)", y.count(4), 0);
        });
        edge(what, "pages are laid anew", () -> {
            Heads x = lexicon(7, 4, 3, "ax:8,bx:9");
            due("save(0)", x.save(0), 2);
            due("set(WIDTH, 30)", x.set(WIDTH, 30), 4);
            due("count(4)", x.count(4), 3);
            due("restore(0)", x.restore(0), 2);
            due("count(4)", x.count(4), 4);
            due("count(8)", x.count(8), 10);
            due("count(9)", x.count(9), 0);
        });
        edge(what, "not the pad, nor the history", () -> {
            Heads x = lexicon("a:1");
            due("save(0)", x.save(0), 1);
            due("change(0, 2)", x.change(0, 2), 1);
            due("put", x.put(Check.packed("b:1")), 3);
            due("restore(0)", x.restore(0), 1);
            due("count(14)", x.count(14), 3);
            due("read()", x.read(), 2);
        });
        edge("which keeps it", "twice, with changes between, and behind undo", () -> {
            Heads x = lexicon("a:1,b:2");
            due("save(0)", x.save(0), 2);
            for (int time = 0; time < 3; time++) {
                due("change(0, 40)", x.change(0, 40), 1);
                due("drop(1)", x.drop(1), 2);
                due("restore(0)", x.restore(0), 2);
                same("the state", Check.state(x), "12 12 2 a:1,b:2");
            }
            due("undo()", x.undo(), 5);
            due("restore(0)", x.restore(0), 2);
            same("the state", Check.state(x), "12 12 2 a:1,b:2");
        });
        edge("This is a change.", "also of what there is; undo brings back what was before it", () -> {
            Heads x = lexicon("a:1");
            due("save(0)", x.save(0), 1);
            due("restore(0)", x.restore(0), 1);
            due("count(14)", x.count(14), 2);
            due("change(0, 2)", x.change(0, 2), 1);
            due("restore(0)", x.restore(0), 1);
            due("undo()", x.undo(), 3);
            due("entry(0, 0)", x.entry(0, 0), 2);
        });
        edge("Returns how many entries there are then", "not how many there were", () -> {
            Heads x = lexicon("a:1");
            due("save(1)", x.save(1), 1);
            due("read()", withPad(x, "b:1,c:1").read(), 3);
            due("restore(1)", x.restore(1), 1);
        });
        edge("`slot`: 0 or 1", "both, and those beside them", () -> {
            Heads x = lexicon("a:1");
            due("save(0)", x.save(0), 1);
            due("save(1)", x.save(1), 1);
            due("restore(-1)", x.restore(-1), BAD_VALUE);
            due("restore(0)", x.restore(0), 1);
            due("restore(1)", x.restore(1), 1);
            due("restore(2)", x.restore(2), BAD_VALUE);
        });
    }

    private static void restoreErrors() {
        edge("BAD_VALUE if there is no such slot", "-1, 2, and the smallest and the largest int", () -> {
            for (int none : new int[] {-1, 2, LOW, HIGH}) {
                refused("restore(" + none + ")", "q:1", x -> x.restore(none), BAD_VALUE);
            }
        });
        String nothing = "NOT_POSSIBLE if nothing was saved in it.";
        edge(nothing, "both slots of a new object, and the other one when one is saved", () -> {
            due("restore(0)", new Heads().restore(0), NOT_POSSIBLE);
            due("restore(1)", new Heads().restore(1), NOT_POSSIBLE);
            Heads x = lexicon("a:1");
            due("save(1)", x.save(1), 1);
            due("restore(0)", x.restore(0), NOT_POSSIBLE);
            x = lexicon("a:1");
            due("save(0)", x.save(0), 1);
            due("restore(1)", x.restore(1), NOT_POSSIBLE);
        });
        edge(nothing, "an empty lexicon is something, and a refused save is nothing", () -> {
            Heads x = new Heads();
            due("save(0)", x.save(0), 0);
            due("restore(0)", x.restore(0), 0);
            due("save(2)", x.save(2), BAD_VALUE);
            due("restore(1)", x.restore(1), NOT_POSSIBLE);
        });
        edge(nothing, "undo takes nothing from a slot, and brings nothing back", () -> {
            Heads x = lexicon("a:1");
            due("save(0)", x.save(0), 1);
            due("undo()", x.undo(), 0);
            due("restore(0)", x.restore(0), 1);
            due("restore(1)", x.restore(1), NOT_POSSIBLE);
        });
        edge(nothing, "nothing has changed behind it", () -> {
            unchanged("restore(0)", () -> calm("q:1"), x -> x.restore(0), NOT_POSSIBLE);
            unchanged("restore(1)", () -> calm("q:1"), x -> x.restore(1), NOT_POSSIBLE);
        });
    }
}
