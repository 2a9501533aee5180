import java.util.Arrays;

/** What every test here needs: calls with the answers that are due, and texts for the pad. */
final class Check {
    private static final int MOST_SECONDS = 300;

    private static int wrong = 0;

    static {
        // A call that fails to end must not keep the tests from ending.
        Thread watch = new Thread(Check::endLate);
        watch.setDaemon(true);
        watch.start();
    }

    private Check() {
    }

    static void due(String call, long got, long want) {
        if (got != want) {
            wrong++;
            System.out.println(call + " answered " + got + ", due is " + want);
        }
    }

    static void holds(String what, boolean isSo) {
        if (!isSo) {
            wrong++;
            System.out.println("it does not hold that " + what);
        }
    }

    private static void endLate() {
        try {
            Thread.sleep(MOST_SECONDS * 1000L);
        } catch (InterruptedException ended) {
            return;
        }
        System.out.println("it did not come to its end in " + MOST_SECONDS + " seconds");
        Runtime.getRuntime().halt(1);
    }

    static int wrong() {
        return wrong;
    }

    static void end() {
        if (wrong != 0) {
            System.out.println(wrong + " answers are not as due");
            System.exit(1);
        }
    }

    /** The number by which a text of up to eight characters is put. */
    static long packed(String text) {
        long characters = 0;
        for (int i = 0; i < text.length(); i++) {
            characters = characters << 8 | text.charAt(i);
        }
        return characters;
    }

    static void put(Heads x, String text) {
        for (int from = 0; from < text.length(); from += 8) {
            String part = text.substring(from, Math.min(text.length(), from + 8));
            int got = x.put(packed(part));
            holds("'" + part + "' can be put (" + got + ")", got > 0);
        }
    }

    /** The pad has this text and no other. */
    static void pad(Heads x, String text) {
        x.wipe();
        put(x, text);
    }

    static Heads lexicon(int lines, int width, int keep, String... texts) {
        Heads x = new Heads();
        due("set LINES", x.set(RunningHeads.LINES, lines), 12);
        due("set WIDTH", x.set(RunningHeads.WIDTH, width), 12);
        due("set KEEP", x.set(RunningHeads.KEEP, keep), 2);
        for (String text : texts) {
            pad(x, text);
            holds("'" + text + "' can be read", x.read() > 0);
        }
        return x;
    }

    static Heads lexicon(String... texts) {
        Heads x = new Heads();
        for (String text : texts) {
            pad(x, text);
            holds("'" + text + "' can be read", x.read() > 0);
        }
        return x;
    }

    /** The most entries, lines and pages that there can be: 300 pages of 4 lines. */
    static Heads full() {
        Heads x = lexicon(6, 4, 3);
        for (int i = 0; i < 30; i++) {
            put(x, "entry" + (char) ('a' + i % 26) + (char) ('a' + i / 26) + ":40");
            due("read()", x.read(), i + 1);
        }
        return x;
    }

    static String word(Heads x, int entry) {
        StringBuilder word = new StringBuilder();
        int letters = x.entry(entry, 5);
        for (int i = 0; i < letters; i++) {
            word.append((char) x.entry(entry, 6 + i));
        }
        return word.toString();
    }

    static String head(Heads x, int page) {
        StringBuilder head = new StringBuilder();
        int width = x.page(page, 6);
        for (int i = 0; i < width; i++) {
            head.append((char) x.page(page, 7 + i));
        }
        return head.toString();
    }

    /** The entries as a text, however long. */
    static String entries(Heads x) {
        StringBuilder text = new StringBuilder();
        int entries = x.count(3);
        for (int entry = 0; entry < entries; entry++) {
            text.append(entry == 0 ? "" : ",").append(word(x, entry)).append(':').append(x.entry(entry, 0));
        }
        return text.toString();
    }

    /** The settings and entries, which is all that undo and the slots bring back. */
    static String state(Heads x) {
        return x.count(0) + " " + x.count(1) + " " + x.count(2) + " " + entries(x);
    }

    static void text(String what, String got, String want) {
        holds(what + " is '" + want + "', not '" + got + "'", got.equals(want));
    }

    /** Several numbers of an entry or a page, from what 0 on. */
    static void row(String name, int[] got, int... want) {
        for (int i = 0; i < want.length; i++) {
            due(name + " what " + i, got[i], want[i]);
        }
    }

    static int[] entryRow(Heads x, int entry) {
        int[] row = new int[5];
        for (int what = 0; what < row.length; what++) {
            row[what] = x.entry(entry, what);
        }
        return row;
    }

    static int[] pageRow(Heads x, int page) {
        int[] row = new int[6];
        for (int what = 0; what < row.length; what++) {
            row[what] = x.page(page, what);
        }
        return row;
    }

    /** What is told of all pages, and of where each entry stands. */
    static String pages(Heads x) {
        StringBuilder pages = new StringBuilder();
        for (int what = 4; what <= 12; what++) {
            pages.append(x.count(what)).append(' ');
        }
        int many = x.count(4);
        for (int page = 0; page < many; page++) {
            pages.append(head(x, page)).append(Arrays.toString(pageRow(x, page)));
        }
        int entries = x.count(3);
        for (int entry = 0; entry < entries; entry++) {
            pages.append(Arrays.toString(entryRow(x, entry)));
        }
        return pages.toString();
    }

    /** All that can be asked for, the slots aside: an error and a question must not change it. */
    static String all(Heads x) {
        return state(x) + ' ' + pages(x) + ' ' + x.count(13) + ' ' + x.count(14) + ' ' + x.fault();
    }

    static final int[] FAR = {Integer.MIN_VALUE, Integer.MIN_VALUE + 1, -1000, Integer.MAX_VALUE - 1, Integer.MAX_VALUE};
}
