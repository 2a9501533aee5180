import java.util.ArrayList;
import java.util.List;
import java.util.Random;

/** Long runs of calls, the same each time, of which the program and the model give the same answers. */
public final class ModelTest {
    private static final int RUNS = 600, FULL_RUNS = 60;
    // A turn of a run makes fewer calls than these.
    private static final int MOST_OF_A_TURN = 24;
    private static final int[] WHOLE = {0, -1, 1, 2, 3, 4, 5, 6, 7, 12, 29, 30, 31, 40, 41, 200, 201,
        Integer.MAX_VALUE, Integer.MIN_VALUE};

    private final Random random;
    private final int style;
    private Heads x = new Heads();
    private Model m = new Model();
    private int unsettled = 0;

    private ModelTest(int seed) {
        random = new Random(seed);
        style = seed % 4;
    }

    public static void main(String[] args) {
        int unsettled = 0;
        for (int run = 0; run < RUNS; run++) {
            ModelTest test = new ModelTest(run);
            while (test.x.left() >= MOST_OF_A_TURN) {
                test.turn("run " + run + ", " + test.x.left() + " calls left, ");
            }
            unsettled += test.unsettled;
        }
        for (int run = 0; run < FULL_RUNS; run++) {
            new ModelTest(1000 + run).compareFull("full run " + run + " ");
        }
        Check.holds("some layouts are not settled", unsettled > 0);
        Check.end();
    }

    /** 30 entries, some of them of the most lines, and each answer about them, with some settings. */
    private void compareFull(String name) {
        List<String> texts = fullTexts();
        for (int turn = 0; turn < 6; turn++) {
            int[] settings = {turn == 0 ? 6 : 6 + upTo(35), turn == 0 ? 4 : 4 + upTo(12), 1 + upTo(3)};
            for (int what = -1; what <= 15; what++) {
                make(name, texts, settings);
                compare(name + turn + " ", what);
            }
        }
    }

    private List<String> fullTexts() {
        int letters = 1 + upTo(7);
        List<String> texts = new ArrayList<>();
        String text = "";
        for (int i = 0; i < 30; i++) {
            StringBuilder word = new StringBuilder("" + (char) ('a' + (i < 15 ? i : 30 - i)));
            for (int letter = 1; letter < letters; letter++) {
                word.append((char) ('a' + (i < 15 ? letter : 20)));
            }
            String entry = word.substring(0, letters) + ":" + (style == 0 ? 40 : 1 + upTo(style == 1 ? 40 : 9));
            if (text.length() + 1 + entry.length() > 60) {
                texts.add(text);
                text = "";
            }
            text = text.isEmpty() ? entry : text + "," + entry;
        }
        texts.add(text);
        return texts;
    }

    private void make(String name, List<String> texts, int[] settings) {
        x = new Heads();
        m = new Model();
        for (int setting = 0; setting < settings.length; setting++) {
            Check.due(name + "set", x.set(setting, settings[setting]), m.set(setting, settings[setting]));
        }
        for (String text : texts) {
            pad(name, text);
            Check.due(name + "read", x.read(), m.read());
        }
    }

    private void compare(String name, int what) {
        Check.due(name + "count " + what, x.count(what), m.count(what));
        for (int entry = -1; entry <= m.count(3); entry++) {
            Check.due(name + "entry " + entry + " " + what, x.entry(entry, what), m.entry(entry, what));
        }
        for (int page = -1; page <= m.count(4); page += 1 + page / 20) {
            Check.due(name + "page " + page + " " + what, x.page(page, what), m.page(page, what));
        }
        for (int fold = -1 + what % 2; fold <= m.count(5); fold += 2) {
            Check.due(name + "fold " + fold + " left", x.fold(fold, true), m.fold(fold, true));
            Check.due(name + "fold " + fold + " right", x.fold(fold, false), m.fold(fold, false));
        }
    }

    private int upTo(int bound) {
        return random.nextInt(bound);
    }

    private int entryNumber() {
        return upTo(20) == 0 ? anyNumber() : upTo(m.count(3) + 1);
    }

    private int anyNumber() {
        return WHOLE[upTo(WHOLE.length)];
    }

    private int value(int setting) {
        if (upTo(8) == 0) {
            return anyNumber();
        }
        int[] low = {6, 4, 1}, spread = {style == 0 ? 3 : 35, style == 1 ? 12 : 27, 3};
        return setting < 0 || setting > 2 ? anyNumber() : low[setting] + upTo(spread[setting]);
    }

    private int setting() {
        return upTo(12) == 0 ? anyNumber() : upTo(3);
    }

    private String word() {
        int letters = style == 2 ? 1 + upTo(2) : 1 + upTo(7);
        StringBuilder word = new StringBuilder();
        for (int i = 0; i < letters; i++) {
            word.append((char) ('a' + upTo(style == 3 ? 26 : 4)));
        }
        return word.toString();
    }

    private String text() {
        StringBuilder text = new StringBuilder();
        int entries = 1 + upTo(6);
        for (int i = 0; i < entries; i++) {
            int lines = upTo(3) == 0 ? 40 - upTo(3) : 1 + upTo(style == 0 ? 40 : 12);
            text.append(i == 0 ? "" : ",").append(word()).append(':').append(lines);
        }
        if (upTo(6) == 0) {
            int at = upTo(text.length());
            text.setCharAt(at, ",:a0459z`{/;".charAt(upTo(12)));
        }
        if (upTo(12) == 0) {
            text.setLength(upTo(text.length() + 1));
        }
        return text.length() <= 60 ? text.toString() : text.substring(0, upTo(61));
    }

    private void pad(String name, String text) {
        Check.due(name + "wipe", x.wipe(), m.wipe());
        for (int from = 0; from < text.length(); from += 8) {
            long characters = Check.packed(text.substring(from, Math.min(text.length(), from + 8)));
            Check.due(name + "put " + characters, x.put(characters), m.put(characters));
        }
        Check.due(name + "fault of " + text, x.fault(), m.fault());
    }

    private void turn(String name) {
        int kind = upTo(22);
        if (kind < 9) {
            change(name, kind);
        } else if (kind < 14) {
            askPages(name, kind);
        } else {
            askMore(name, kind);
        }
        Check.due(name + kind + " then count(13)", x.count(13), m.count(13));
        Check.due(name + kind + " then count(14)", x.count(14), m.count(14));
    }

    private void change(String name, int kind) {
        int entry = entryNumber();
        int number = upTo(4) == 0 ? anyNumber() : 1 + upTo(40);
        int setting = setting();
        int value = value(setting);
        switch (kind) {
            case 0 -> Check.due(name + "set", x.set(setting, value), m.set(setting, value));
            case 1, 2 -> {
                pad(name, text());
                Check.due(name + "read", x.read(), m.read());
            }
            case 3 -> Check.due(name + "change", x.change(entry, number), m.change(entry, number));
            case 4 -> Check.due(name + "drop", x.drop(entry), m.drop(entry));
            case 5 -> Check.due(name + "join", x.join(entry), m.join(entry));
            case 6 -> {
                pad(name, word());
                Check.due(name + "rename", x.rename(entry), m.rename(entry));
            }
            case 7 -> Check.due(name + "undo", x.undo(), m.undo());
            default -> {
                int slot = upTo(10) == 0 ? anyNumber() : upTo(2);
                if (upTo(2) == 0) {
                    Check.due(name + "save", x.save(slot), m.save(slot));
                } else {
                    Check.due(name + "restore", x.restore(slot), m.restore(slot));
                }
            }
        }
        if (m.count(9) == 0) {
            unsettled++;
        }
    }

    private void askPages(String name, int kind) {
        int page = upTo(20) == 0 ? anyNumber() : upTo(m.count(4) + 1);
        int what = upTo(20) == 0 ? anyNumber() : upTo(24);
        int entry = entryNumber();
        switch (kind) {
            case 9 -> Check.due(name + "entry " + what, x.entry(entry, what), m.entry(entry, what));
            case 10, 11 -> Check.due(name + "page " + what, x.page(page, what), m.page(page, what));
            case 12 -> {
                boolean isLeft = upTo(2) == 0;
                int fold = page > 0 ? page / 2 : page;
                Check.due(name + "fold", x.fold(fold, isLeft), m.fold(fold, isLeft));
            }
            default -> {
                for (int number = -1; number <= 15; number++) {
                    Check.due(name + "count " + number, x.count(number), m.count(number));
                }
            }
        }
    }

    private void askMore(String name, int kind) {
        int setting = setting();
        int value = value(setting);
        int number = upTo(4) == 0 ? anyNumber() : 1 + upTo(30);
        switch (kind) {
            case 14 -> {
                pad(name, word());
                Check.due(name + "lookFor", x.lookFor(), m.lookFor());
                Check.due(name + "find", x.find(), m.find());
            }
            case 15 -> Check.due(name + "ifSet", x.ifSet(setting, value), m.ifSet(setting, value));
            case 16 -> Check.due(name + "leastLines", x.leastLines(number), m.leastLines(number));
            case 17 -> {
                int what = upTo(10) == 0 ? anyNumber() : upTo(2);
                Check.due(name + "bestLines", x.bestLines(what), m.bestLines(what));
            }
            case 18 -> {
                long characters = upTo(3) == 0 ? random.nextLong() >>> upTo(64) : Check.packed(word());
                Check.due(name + "put " + characters, x.put(characters), m.put(characters));
            }
            case 19 -> Check.due(name + "fault", x.fault(), m.fault());
            case 20 -> Check.due(name + "lookFor", x.lookFor(), m.lookFor());
            default -> Check.due(name + "wipe", x.wipe(), m.wipe());
        }
    }
}
