import java.util.ArrayDeque;
import java.util.ArrayList;
import java.util.Arrays;
import java.util.Deque;
import java.util.List;
import java.util.TreeMap;

/**
 * The document once more, written on its own, line by line of each page and without care for speed:
 * ModelTest asks it and the program the same.
 */
final class Model {
    private static final int[] LOW = {6, 4, 1}, HIGH = {40, 30, 3};
    private static final String ENTRY = "[a-z]{1,7}:([1-9]|[1-3][0-9]|40)";

    private record State(int[] settings, TreeMap<String, Integer> entries) {
        State copy() {
            return new State(settings.clone(), new TreeMap<>(entries));
        }
    }

    /** A page: the lines of its head, and for each other line the entry. */
    private record Page(int head, List<Integer> lines) {
    }

    private record Laid(List<Page> pages, int passes, boolean settled, int linesOfPage) {
        int blank() {
            int sum = 0;
            for (Page p : pages) {
                sum += linesOfPage - p.head - p.lines.size();
            }
            return sum;
        }
    }

    private State now = new State(new int[] {12, 12, 2}, new TreeMap<>());
    private final Deque<State> past = new ArrayDeque<>();
    private final State[] slots = new State[2];
    private String pad = "";
    private String keptFor = "";
    private Laid kept;

    private void remember() {
        past.addLast(now.copy());
        if (past.size() > 6) {
            past.removeFirst();
        }
    }

    private List<String> words() {
        return new ArrayList<>(now.entries.keySet());
    }

    private boolean no(int entry) {
        return entry < 0 || entry >= now.entries.size();
    }

    private static boolean badSetting(int setting, int value) {
        return setting < 0 || setting > 2 || value < LOW[setting] || value > HIGH[setting];
    }

    // ---- laying

    private static List<Page> layOnce(List<Integer> entries, int linesOfPage, int keep, List<Integer> heads) {
        List<Page> pages = new ArrayList<>();
        for (int e = 0; e < entries.size(); e++) {
            int n = entries.get(e);
            int[] parts = parts(pages, n, linesOfPage, keep, heads);
            for (int i = 0; i < n; i++) {
                if (i == 0 && parts[0] == 1 || i == parts[1] || pages.isEmpty() || full(pages, linesOfPage)) {
                    pages.add(new Page(headOf(heads, pages.size()), new ArrayList<>()));
                }
                pages.get(pages.size() - 1).lines.add(e);
            }
        }
        return pages;
    }

    private static int headOf(List<Integer> heads, int page) {
        return page < heads.size() ? heads.get(page) : 1;
    }

    private static boolean full(List<Page> pages, int linesOfPage) {
        Page p = pages.get(pages.size() - 1);
        return p.lines.size() == linesOfPage - p.head;
    }

    /** Whether it begins on a new page (1 or 0), and how many lines are ahead of the next page. */
    private static int[] parts(List<Page> pages, int n, int linesOfPage, int keep, List<Integer> heads) {
        if (!pages.isEmpty()) {
            Page p = pages.get(pages.size() - 1);
            int part = part(n, linesOfPage - p.head - p.lines.size(), keep);
            if (part > 0) {
                return new int[] {0, part};
            }
        }
        int r = linesOfPage - headOf(heads, pages.size());
        int part = part(n, r, keep);
        return new int[] {1, part > 0 ? part : r};
    }

    private static int part(int n, int r, int keep) {
        if (n <= r) {
            return n;
        }
        if (r >= keep && n - r >= keep) {
            return r;
        }
        if (r >= keep && n - keep >= keep) {
            return n - keep;
        }
        return 0;
    }

    private static String head(Page p, List<String> words) {
        int first = p.lines.get(0);
        int last = p.lines.get(p.lines.size() - 1);
        return first == last ? words.get(first) : words.get(first) + "-" + words.get(last);
    }

    private Laid lay(int lines, int width, int keep) {
        List<String> words = words();
        List<Integer> entries = new ArrayList<>(now.entries.values());
        List<Integer> heads = new ArrayList<>();
        for (int pass = 1; ; pass++) {
            List<Page> pages = layOnce(entries, lines, keep, heads);
            List<Integer> took = new ArrayList<>();
            heads = new ArrayList<>();
            for (Page p : pages) {
                took.add(p.head);
                heads.add(head(p, words).length() <= width ? 1 : 2);
            }
            if (took.equals(heads) || pass == 10) {
                return new Laid(pages, pass, took.equals(heads), lines);
            }
        }
    }

    /** Kept as long as it is asked of the same state, so that the tests come to an end soon. */
    private Laid lay() {
        String state = Arrays.toString(now.settings) + now.entries;
        if (!state.equals(keptFor)) {
            kept = lay(now.settings[0], now.settings[1], now.settings[2]);
            keptFor = state;
        }
        return kept;
    }

    private Laid lay(int lines) {
        return lay(lines, now.settings[1], now.settings[2]);
    }

    private static int begunOn(Laid laid, int page) {
        return (int) laid.pages.get(page).lines.stream().distinct().filter(e -> beginOf(laid, e) == page).count();
    }

    private static int beginOf(Laid laid, int entry) {
        for (int p = 0; p < laid.pages.size(); p++) {
            if (laid.pages.get(p).lines.contains(entry)) {
                return p;
            }
        }
        return -99;
    }

    private static int pagesOf(Laid laid, int entry) {
        return (int) laid.pages.stream().filter(p -> p.lines.contains(entry)).count();
    }

    // ---- the calls

    int set(int setting, int value) {
        if (badSetting(setting, value)) {
            return -2;
        }
        remember();
        int before = now.settings[setting];
        now.settings[setting] = value;
        return before;
    }

    int read() {
        if (!pad.matches(ENTRY + "(," + ENTRY + ")*")) {
            return -3;
        }
        TreeMap<String, Integer> then = new TreeMap<>(now.entries);
        for (String entry : pad.split(",")) {
            then.put(entry.split(":")[0], Integer.valueOf(entry.split(":")[1]));
        }
        if (then.size() > 30) {
            return -4;
        }
        remember();
        now = new State(now.settings, then);
        pad = "";
        return then.size();
    }

    int change(int entry, int lines) {
        if (no(entry)) {
            return -1;
        }
        if (lines < 1 || lines > 40) {
            return -2;
        }
        remember();
        return now.entries.put(words().get(entry), lines);
    }

    int drop(int entry) {
        if (no(entry)) {
            return -1;
        }
        remember();
        return now.entries.remove(words().get(entry));
    }

    int join(int entry) {
        if (no(entry) || no(entry + 1)) {
            return -1;
        }
        int sum = now.entries.get(words().get(entry)) + now.entries.get(words().get(entry + 1));
        if (sum > 40) {
            return -4;
        }
        remember();
        now.entries.remove(words().get(entry + 1));
        now.entries.put(words().get(entry), sum);
        return sum;
    }

    int rename(int entry) {
        if (no(entry)) {
            return -1;
        }
        if (!pad.matches("[a-z]{1,7}")) {
            return -3;
        }
        if (now.entries.containsKey(pad) && words().indexOf(pad) != entry) {
            return -5;
        }
        remember();
        now.entries.put(pad, now.entries.remove(words().get(entry)));
        int then = words().indexOf(pad);
        pad = "";
        return then;
    }

    int entry(int entry, int what) {
        if (no(entry)) {
            return -1;
        }
        if (what < 0) {
            return -2;
        }
        Laid laid = lay();
        String word = words().get(entry);
        int begin = beginOf(laid, entry);
        switch (what) {
            case 0: return now.entries.get(word);
            case 1: return begin;
            case 2: return laid.pages.get(begin).lines.indexOf(entry);
            case 3: return begin + pagesOf(laid, entry) - 1;
            case 4: return pagesOf(laid, entry);
            case 5: return word.length();
            default: return what - 6 < word.length() ? word.charAt(what - 6) : -6;
        }
    }

    int page(int page, int what) {
        Laid laid = lay();
        if (page < 0 || page >= laid.pages.size()) {
            return -1;
        }
        if (what < 0) {
            return -2;
        }
        Page p = laid.pages.get(page);
        String head = head(p, words());
        switch (what) {
            case 0: return p.lines.get(0);
            case 1: return p.lines.get(p.lines.size() - 1);
            case 2: return begunOn(laid, page);
            case 3: return p.lines.size();
            case 4: return now.settings[0] - p.head - p.lines.size();
            case 5: return p.head;
            case 6: return head.length();
            default: return what - 7 < head.length() ? head.charAt(what - 7) : -6;
        }
    }

    int fold(int fold, boolean isLeft) {
        Laid laid = lay();
        int pages = laid.pages.size();
        if (fold < 0 || fold >= pages / 2 + pages % 2) {
            return -1;
        }
        int page = isLeft ? 2 * fold : 2 * fold + 1;
        if (page >= pages) {
            return -6;
        }
        List<Integer> on = laid.pages.get(page).lines;
        List<Integer> begin = on.stream().filter(e -> beginOf(laid, e) == page).toList();
        List<Integer> from = begin.isEmpty() ? on : begin;
        return from.get(isLeft ? from.size() - 1 : 0);
    }

    int count(int what) {
        if (what < 0 || what > 14) {
            return -2;
        }
        Laid laid = lay();
        int pages = laid.pages.size();
        int sum = 0;
        switch (what) {
            case 0: case 1: case 2: return now.settings[what];
            case 3: return now.entries.size();
            case 4: return pages;
            case 5: return pages / 2 + pages % 2;
            case 6: return now.entries.values().stream().mapToInt(n -> n).sum();
            case 7: return laid.blank();
            case 8: return laid.passes;
            case 9: return laid.settled ? 1 : 0;
            case 10:
                for (int p = 0; p < pages; p++) {
                    sum += begunOn(laid, p) == 0 ? 1 : 0;
                }
                return sum;
            case 11:
                for (int e = 0; e < now.entries.size(); e++) {
                    sum += pagesOf(laid, e) > 1 ? 1 : 0;
                }
                return sum;
            case 12: return (int) laid.pages.stream().filter(p -> p.head == 2).count();
            case 13: return pad.length();
            default: return past.size();
        }
    }

    int lookFor() {
        if (!pad.matches("[a-z]{1,7}")) {
            return -3;
        }
        List<Page> pages = lay().pages;
        for (int p = 0; p < pages.size(); p++) {
            List<Integer> lines = pages.get(p).lines;
            if (words().get(lines.get(lines.size() - 1)).compareTo(pad) >= 0) {
                return p;
            }
        }
        return pages.isEmpty() ? -6 : pages.size() - 1;
    }

    int find() {
        if (!pad.matches("[a-z]{1,7}")) {
            return -3;
        }
        return now.entries.containsKey(pad) ? words().indexOf(pad) : -6;
    }

    int ifSet(int setting, int value) {
        if (badSetting(setting, value)) {
            return -2;
        }
        int[] settings = now.settings.clone();
        settings[setting] = value;
        return lay(settings[0], settings[1], settings[2]).pages.size();
    }

    int leastLines(int pages) {
        if (pages < 1 || pages > 200) {
            return -2;
        }
        for (int lines = 6; lines <= 40; lines++) {
            if (lay(lines).pages.size() <= pages) {
                return lines;
            }
        }
        return -6;
    }

    int bestLines(int what) {
        if (what < 0 || what > 1) {
            return -2;
        }
        int best = 40;
        int fewest = Integer.MAX_VALUE;
        for (int lines = 40; lines >= 6; lines--) {
            int blank = lay(lines).blank();
            if (blank <= fewest) {
                best = lines;
                fewest = blank;
            }
        }
        return what == 0 ? best : fewest;
    }

    int put(long characters) {
        StringBuilder text = new StringBuilder();
        long rest = characters;
        while (rest != 0) {
            text.insert(0, (char) (rest & 255));
            rest = rest >>> 8;
        }
        for (int i = 0; i < text.length(); i++) {
            if (text.charAt(i) < 33 || text.charAt(i) > 126) {
                return -2;
            }
        }
        if (text.length() == 0) {
            return -2;
        }
        if (pad.length() + text.length() > 60) {
            return -4;
        }
        pad += text;
        return pad.length();
    }

    int wipe() {
        int length = pad.length();
        pad = "";
        return length;
    }

    int fault() {
        for (int i = 0; i < pad.length(); i++) {
            if (!canGoOn(pad.substring(0, i + 1))) {
                return i;
            }
        }
        return pad.matches(ENTRY + "(," + ENTRY + ")*") ? -6 : pad.length();
    }

    private static boolean canGoOn(String begin) {
        for (String end : new String[] {"", "1", ":1", "a:1"}) {
            if ((begin + end).matches(ENTRY + "(," + ENTRY + ")*")) {
                return true;
            }
        }
        return false;
    }

    int undo() {
        if (past.isEmpty()) {
            return -5;
        }
        now = past.removeLast();
        return past.size();
    }

    int save(int slot) {
        if (slot < 0 || slot > 1) {
            return -2;
        }
        slots[slot] = now.copy();
        return now.entries.size();
    }

    int restore(int slot) {
        if (slot < 0 || slot > 1) {
            return -2;
        }
        if (slots[slot] == null) {
            return -5;
        }
        remember();
        now = slots[slot].copy();
        return now.entries.size();
    }
}
