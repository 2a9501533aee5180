/** put: characters for the pad, as a number. */
public final class Promise17PutTest {
    public static void main(String[] args) {
        order();
        codes();
        length();
        Check.end();
    }

    private static void order() {
        Heads x = new Heads();
        // b, a, c: the last character has the lowest bits.
        Check.due("put('ba')", x.put('b' << 8 | 'a'), 2);
        Check.due("put('c')", x.put('c'), 3);
        Check.due("put(':7')", x.put(':' << 8 | '7'), 5);
        Check.due("read()", x.read(), 1);
        Check.text("the entry", Check.entries(x), "bac:7");
        Check.due("put of eight", x.put(Check.packed("abcdefg:")), 8);
        Check.due("put of one", x.put('9'), 9);
        Check.due("read()", x.read(), 2);
        Check.text("the entries", Check.entries(x), "abcdefg:9,bac:7");
        Check.due("count(14): put is no change", x.count(14), 2);
    }

    private static void codes() {
        Heads x = new Heads();
        Check.due("put(33)", x.put(33), 1);
        Check.due("put(126)", x.put(126), 2);
        Check.due("put of eight times 126", x.put(0x7e7e7e7e7e7e7e7eL), 10);
        Check.due("put of eight times 33", x.put(0x2121212121212121L), 18);
        long[] bad = {0, 1, 32, 127, 128, 255, 0x6100, 0x610061, 0x6100000000000000L, 0x6100000000000061L,
            0x1000000000061L, 0x2061L, 0x7f61L, 0x6120L, 0x617fL, 0x61ff61L, -1L, Long.MIN_VALUE,
            Long.MIN_VALUE + 'a', Long.MAX_VALUE, 0xe161616161616161L, 0x8061L, 0x1f61616161616161L};
        for (long characters : bad) {
            Check.due("put(" + Long.toHexString(characters) + ")", x.put(characters), RunningHeads.BAD_VALUE);
            Check.due("the length of the pad", x.count(13), 18);
        }
    }

    private static void length() {
        Heads x = new Heads();
        for (int eight = 1; eight <= 7; eight++) {
            Check.due("put of eight", x.put(Check.packed("aaaaaaaa")), 8 * eight);
        }
        Check.due("put up to 61", x.put(Check.packed("aaaaa")), RunningHeads.TOO_MANY);
        Check.due("the length of the pad", x.count(13), 56);
        Check.due("put up to 60", x.put(Check.packed("aaaa")), 60);
        Check.due("put of one more", x.put('a'), RunningHeads.TOO_MANY);
        Check.due("put of eight more", x.put(Check.packed("aaaaaaaa")), RunningHeads.TOO_MANY);
        Check.due("put(0), which is told first", x.put(0), RunningHeads.BAD_VALUE);
        Check.due("put(32), which is told first", x.put(32), RunningHeads.BAD_VALUE);
        Check.due("wipe()", x.wipe(), 60);
        Check.due("put behind it", x.put('a'), 1);
    }
}
