/**
 * A RunningHeads whose calls are counted. The document leaves free what calls behind the 512th answer,
 * so a test that made more of one object would ask for something that is not promised.
 */
final class Heads {
    static final int MOST_CALLS = 512;

    private final RunningHeads heads = new RunningHeads();
    private int calls = 0;

    int left() {
        return MOST_CALLS - calls;
    }

    private RunningHeads counted() {
        calls++;
        if (calls == MOST_CALLS + 1) {
            Check.holds("a test makes at most " + MOST_CALLS + " calls of one object", false);
        }
        return heads;
    }

    int set(int setting, int value) {
        return counted().set(setting, value);
    }

    int read() {
        return counted().read();
    }

    int change(int entry, int lines) {
        return counted().change(entry, lines);
    }

    int drop(int entry) {
        return counted().drop(entry);
    }

    int join(int entry) {
        return counted().join(entry);
    }

    int rename(int entry) {
        return counted().rename(entry);
    }

    int entry(int entry, int what) {
        return counted().entry(entry, what);
    }

    int page(int page, int what) {
        return counted().page(page, what);
    }

    int fold(int fold, boolean isLeft) {
        return counted().fold(fold, isLeft);
    }

    int count(int what) {
        return counted().count(what);
    }

    int lookFor() {
        return counted().lookFor();
    }

    int find() {
        return counted().find();
    }

    int ifSet(int setting, int value) {
        return counted().ifSet(setting, value);
    }

    int leastLines(int pages) {
        return counted().leastLines(pages);
    }

    int bestLines(int what) {
        return counted().bestLines(what);
    }

    int put(long characters) {
        return counted().put(characters);
    }

    int wipe() {
        return counted().wipe();
    }

    int fault() {
        return counted().fault();
    }

    int undo() {
        return counted().undo();
    }

    int save(int slot) {
        return counted().save(slot);
    }

    int restore(int slot) {
        return counted().restore(slot);
    }
}
