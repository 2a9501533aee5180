import java.util.Arrays;
import java.util.function.Supplier;

/**
 * Two objects that are made alike, of which one gets a call more: whether anything differs behind it that
 * calls can bring to light, the pad's characters, each state of the history and both slots included.
 */
final class Twins {
    interface Call {
        int of(Heads x);
    }

    private static final int VIEWS = 20;

    private Twins() {
    }

    static void unchanged(String name, Supplier<Heads> made, Call call, int answer) {
        for (int view = 0; view < VIEWS; view++) {
            Heads touched = made.get();
            Check.due(name, call.of(touched), answer);
            Check.text("view " + view + " behind " + name, look(touched, view), look(made.get(), view));
        }
    }

    /** Whether the first one, behind its calls, is as the other one: in all but what the views leave out. */
    static void alike(String name, Supplier<Heads> one, Supplier<Heads> other) {
        for (int view = 0; view < VIEWS; view++) {
            Check.text("view " + view + " of " + name, look(one.get(), view), look(other.get(), view));
        }
    }

    // Looking changes an object, and takes calls; so each view gets one of its own.
    private static String look(Heads x, int view) {
        switch (view) {
            case 0:
                return numbers(x);
            case 1:
                return entries(x);
            case 2:
            case 3:
            case 4:
                return pages(x, view - 2);
            case 5:
            case 6:
            case 7:
            case 8:
                return pad(x, new String[] {"", "1", ":1", "a:1"}[view - 5]);
            case 9:
                return "find " + x.find() + " lookFor " + x.lookFor() + " rename " + x.rename(0) + " " + Check.state(x);
            case 10:
            case 11:
                return "restored " + x.restore(view - 10) + " " + Check.state(x) + " " + x.count(13) + " " + x.count(14);
            case 12:
                return whatIf(x);
            default:
                return undone(x, view - 12);
        }
    }

    private static String numbers(Heads x) {
        StringBuilder text = new StringBuilder();
        for (int what = -1; what <= 15; what++) {
            text.append(x.count(what)).append(' ');
        }
        for (int fold = -1; fold <= 40; fold++) {
            text.append(x.fold(fold, true)).append('/').append(x.fold(fold, false)).append(' ');
        }
        return text.append(x.fault()).toString();
    }

    private static String entries(Heads x) {
        StringBuilder text = new StringBuilder();
        int entries = x.count(3);
        for (int entry = 0; entry <= entries; entry++) {
            text.append(Check.word(x, entry)).append(Arrays.toString(Check.entryRow(x, entry)));
        }
        return text.toString();
    }

    private static String pages(Heads x, int from) {
        StringBuilder text = new StringBuilder();
        int pages = Math.min(50, x.count(4));
        for (int page = from; page <= pages; page += 3) {
            text.append(Check.head(x, page)).append(Arrays.toString(Check.pageRow(x, page)));
        }
        return text.toString();
    }

    /** What the pad's characters are shows when a text that begins with them is read. */
    private static String pad(Heads x, String more) {
        int put = more.isEmpty() ? 0 : x.put(Check.packed(more));
        return put + " " + x.fault() + " " + x.read() + " " + x.count(13) + " " + Check.entries(x);
    }

    private static String whatIf(Heads x) {
        StringBuilder text = new StringBuilder();
        for (int lines = 6; lines <= 40; lines++) {
            text.append(x.ifSet(0, lines)).append(' ');
        }
        for (int width = 4; width <= 30; width++) {
            text.append(x.ifSet(1, width)).append(' ');
        }
        for (int keep = 1; keep <= 3; keep++) {
            text.append(x.ifSet(2, keep)).append(' ');
        }
        return text.append(x.leastLines(1)).append(' ').append(x.bestLines(0)).append(' ').append(x.bestLines(1)).toString();
    }

    private static String undone(Heads x, int times) {
        StringBuilder text = new StringBuilder();
        for (int undo = 0; undo < times; undo++) {
            text.append(x.undo()).append(' ');
        }
        return text.append(Check.state(x)).append(' ').append(x.count(4)).append(' ').append(x.count(13)).toString();
    }
}
