/**
 * A lexicon whose entries are laid on pages with running heads. The numbered promises that it keeps
 * stand in ../shared/DOC.md, the part of Java that it is written in in ../shared/LANGUAGE.md.
 */
public final class RunningHeads {
    public static final int NO_SUCH = -1, BAD_VALUE = -2, BAD_TEXT = -3, TOO_MANY = -4, NOT_POSSIBLE = -5, NONE = -6;
    public static final int LINES = 0, WIDTH = 1, KEEP = 2;

    private static final int MOST_ENTRIES = 30, MOST_ENTRY_LINES = 40, MOST_LETTERS = 7;
    private static final int MOST_PASSES = 10;
    // The least room of a page is 4 lines (6 less a head of 2), so an entry never opens more than
    // ten pages: 40 lines from an empty page, or 39 behind a line that stays on the page of now.
    private static final int MOST_PAGES = 10 * MOST_ENTRIES;
    private static final int MOST_PAD = 60, MOST_PUT = 8;
    private static final int MOST_ASKED_PAGES = 200;
    private static final int MOST_UNDO = 6, SLOTS = 2, SETTINGS = 3;
    private static final int[] LOWEST = {6, 4, 1};
    private static final int[] HIGHEST = {40, 30, 3};
    private static final int[] AT_FIRST = {12, 12, 2};

    private final Lexicon now = new Lexicon();
    private final Lexicon draft = new Lexicon();
    private final Layout laid = new Layout();
    private final Layout trial = new Layout();
    private final Pad pad = new Pad();
    private final Past past = new Past();
    private final Lexicon[] slots = new Lexicon[SLOTS];
    private final boolean[] isSaved = new boolean[SLOTS];

    public RunningHeads() {
        for (int slot = 0; slot < SLOTS; slot++) {
            slots[slot] = new Lexicon();
        }
        layPages();
    }

    // ---- changes

    public int set(int setting, int value) {
        if (!isSettingValue(setting, value)) {
            return BAD_VALUE;
        }
        past.remember(now);
        int previous = now.settings[setting];
        now.settings[setting] = value;
        layPages();
        return previous;
    }

    public int read() {
        if (pad.firstFault() != NONE) {
            return BAD_TEXT;
        }
        // Whether there are too many is seen at the end alone, and an error has to change nothing.
        draft.copyOf(now);
        if (!pad.addEntriesTo(draft)) {
            return TOO_MANY;
        }
        past.remember(now);
        now.copyOf(draft);
        pad.empty();
        layPages();
        return now.entries;
    }

    public int change(int entry, int lines) {
        if (!now.hasEntry(entry)) {
            return NO_SUCH;
        }
        if (lines < 1 || lines > MOST_ENTRY_LINES) {
            return BAD_VALUE;
        }
        past.remember(now);
        int previous = now.lines[entry];
        now.lines[entry] = lines;
        layPages();
        return previous;
    }

    public int drop(int entry) {
        if (!now.hasEntry(entry)) {
            return NO_SUCH;
        }
        past.remember(now);
        int lines = now.lines[entry];
        now.takeOut(entry);
        layPages();
        return lines;
    }

    public int join(int entry) {
        // The entry itself is tested first, so that entry + 1 can't wrap around.
        if (!now.hasEntry(entry) || !now.hasEntry(entry + 1)) {
            return NO_SUCH;
        }
        int lines = now.lines[entry] + now.lines[entry + 1];
        if (lines > MOST_ENTRY_LINES) {
            return TOO_MANY;
        }
        past.remember(now);
        now.lines[entry] = lines;
        now.takeOut(entry + 1);
        layPages();
        return lines;
    }

    public int rename(int entry) {
        if (!now.hasEntry(entry)) {
            return NO_SUCH;
        }
        if (!pad.isWord()) {
            return BAD_TEXT;
        }
        long word = pad.word();
        int other = now.numberOf(word);
        if (other != NONE && other != entry) {
            return NOT_POSSIBLE;
        }
        past.remember(now);
        int lines = now.lines[entry];
        now.takeOut(entry);
        now.tell(word, lines);
        pad.empty();
        layPages();
        return now.numberOf(word);
    }

    // ---- entries, pages; nothing changes

    public int entry(int entry, int what) {
        if (!now.hasEntry(entry)) {
            return NO_SUCH;
        }
        if (what < 0) {
            return BAD_VALUE;
        }
        switch (what) {
            case 0:
                return now.lines[entry];
            case 1:
                return laid.beginPage[entry];
            case 2:
                return laid.beginLine[entry];
            case 3:
                return laid.endPage[entry];
            case 4:
                return laid.pagesOf(entry);
            case 5:
                return Word.letters(now.wordOf(entry));
            default:
                return codeOrNone(Word.code(now.wordOf(entry), what - 6));
        }
    }

    public int page(int page, int what) {
        if (!laid.hasPage(page)) {
            return NO_SUCH;
        }
        if (what < 0) {
            return BAD_VALUE;
        }
        switch (what) {
            case 0:
                return laid.first[page];
            case 1:
                return laid.last[page];
            case 2:
                return laid.begun[page];
            case 3:
                return laid.filled[page];
            case 4:
                return laid.blankLinesOf(page);
            case 5:
                return laid.headLines[page];
            case 6:
                return laid.headWidth(page, now);
            default:
                return codeOrNone(laid.headCode(page, what - 7, now));
        }
    }

    public int fold(int fold, boolean isLeft) {
        if (fold < 0 || fold >= laid.folds()) {
            return NO_SUCH;
        }
        if (isLeft) {
            return laid.leftName(2 * fold);
        }
        int right = 2 * fold + 1;
        return laid.hasPage(right) ? laid.rightName(right) : NONE;
    }

    public int count(int what) {
        switch (what) {
            case 0:
            case 1:
            case 2:
                return now.settings[what];
            case 3:
                return now.entries;
            case 6:
                return now.linesOfAll();
            case 13:
                return pad.length;
            case 14:
                return past.states;
            default:
                return countOfPages(what);
        }
    }

    private int countOfPages(int what) {
        switch (what) {
            case 4:
                return laid.pages;
            case 5:
                return laid.folds();
            case 7:
                return laid.blankLines();
            case 8:
                return laid.passes;
            case 9:
                return laid.isSettled ? 1 : 0;
            case 10:
                return laid.pagesWithoutBegin();
            case 11:
                return laid.partedEntries(now.entries);
            case 12:
                return laid.headsOfTwoLines();
            default:
                return BAD_VALUE;
        }
    }

    public int lookFor() {
        if (!pad.isWord()) {
            return BAD_TEXT;
        }
        if (laid.pages == 0) {
            return NONE;
        }
        long word = pad.word();
        for (int page = 0; page < laid.pages; page++) {
            if (now.wordOf(laid.last[page]) >= word) {
                return page;
            }
        }
        return laid.pages - 1;
    }

    public int find() {
        if (!pad.isWord()) {
            return BAD_TEXT;
        }
        return now.numberOf(pad.word());
    }

    // ---- what if; nothing changes

    public int ifSet(int setting, int value) {
        if (!isSettingValue(setting, value)) {
            return BAD_VALUE;
        }
        int lines = setting == LINES ? value : now.settings[LINES];
        int width = setting == WIDTH ? value : now.settings[WIDTH];
        int keep = setting == KEEP ? value : now.settings[KEEP];
        trial.lay(now, lines, width, keep);
        return trial.pages;
    }

    public int leastLines(int pages) {
        if (pages < 1 || pages > MOST_ASKED_PAGES) {
            return BAD_VALUE;
        }
        // One by one, not by halves: nothing promises that more lines never take more pages.
        for (int lines = LOWEST[LINES]; lines <= HIGHEST[LINES]; lines++) {
            layTrial(lines);
            if (trial.pages <= pages) {
                return lines;
            }
        }
        return NONE;
    }

    public int bestLines(int what) {
        if (what != 0 && what != 1) {
            return BAD_VALUE;
        }
        int best = LOWEST[LINES];
        layTrial(best);
        int fewest = trial.blankLines();
        for (int lines = best + 1; lines <= HIGHEST[LINES]; lines++) {
            layTrial(lines);
            int blank = trial.blankLines();
            if (blank < fewest) {
                best = lines;
                fewest = blank;
            }
        }
        return what == 0 ? best : fewest;
    }

    // ---- texts

    public int put(long characters) {
        int more = charactersIn(characters);
        if (more == 0) {
            return BAD_VALUE;
        }
        if (pad.length + more > MOST_PAD) {
            return TOO_MANY;
        }
        for (int above = more - 1; above >= 0; above--) {
            pad.append((int) (characters >>> (8 * above)) & 255);
        }
        return pad.length;
    }

    public int wipe() {
        int length = pad.length;
        pad.empty();
        return length;
    }

    public int fault() {
        return pad.firstFault();
    }

    // ---- undo, saving

    public int undo() {
        if (past.states == 0) {
            return NOT_POSSIBLE;
        }
        past.goBack(now);
        layPages();
        return past.states;
    }

    public int save(int slot) {
        if (!isSlot(slot)) {
            return BAD_VALUE;
        }
        slots[slot].copyOf(now);
        isSaved[slot] = true;
        return now.entries;
    }

    public int restore(int slot) {
        if (!isSlot(slot)) {
            return BAD_VALUE;
        }
        if (!isSaved[slot]) {
            return NOT_POSSIBLE;
        }
        past.remember(now);
        now.copyOf(slots[slot]);
        layPages();
        return now.entries;
    }

    // ---- what several of them need

    private void layPages() {
        laid.lay(now, now.settings[LINES], now.settings[WIDTH], now.settings[KEEP]);
    }

    private void layTrial(int lines) {
        trial.lay(now, lines, now.settings[WIDTH], now.settings[KEEP]);
    }

    private static boolean isSettingValue(int setting, int value) {
        return setting >= 0 && setting < SETTINGS && value >= LOWEST[setting] && value <= HIGHEST[setting];
    }

    private static boolean isSlot(int slot) {
        return slot >= 0 && slot < SLOTS;
    }

    private static int codeOrNone(int code) {
        return code == 0 ? NONE : code;
    }

    /** How many characters a number has that are appended to the pad; 0 if they can't be. */
    private static int charactersIn(long characters) {
        for (int below = 0; below < MOST_PUT; below++) {
            long rest = characters >>> (8 * below);
            if (rest == 0) {
                return below;
            }
            long code = rest & 255;
            if (code < 33 || code > 126) {
                return 0;
            }
        }
        return MOST_PUT;
    }

    /**
     * Words as numbers, so that they need no objects: the letters from the highest 8 bits on, zeros
     * behind them, and in the lowest 8 bits how many they are. The order of these numbers is that of
     * the words in a lexicon, as no letter is less than any letter.
     */
    private static final class Word {
        static final long EMPTY = 0;

        static int letters(long word) {
            return (int) (word & 255);
        }

        /** The code of a letter, 0 if the word has not so many. */
        static int code(long word, int letter) {
            return letter >= 0 && letter < letters(word) ? (int) (word >>> shiftOf(letter)) & 255 : 0;
        }

        static long longer(long word, int code) {
            int letters = letters(word);
            return letters < MOST_LETTERS ? (word | ((long) code << shiftOf(letters))) + 1 : word;
        }

        private static int shiftOf(int letter) {
            return 8 * (MOST_LETTERS - letter);
        }
    }

    /** All that undo and the slots bring back: the settings, and the entries in the order of their words. */
    private static final class Lexicon {
        final int[] settings = {AT_FIRST[LINES], AT_FIRST[WIDTH], AT_FIRST[KEEP]};
        final int[] lines = new int[MOST_ENTRIES];
        private final long[] words = new long[MOST_ENTRIES];
        int entries = 0;

        void copyOf(Lexicon other) {
            for (int setting = 0; setting < SETTINGS; setting++) {
                settings[setting] = other.settings[setting];
            }
            for (int entry = 0; entry < other.entries; entry++) {
                lines[entry] = other.lines[entry];
                words[entry] = other.words[entry];
            }
            entries = other.entries;
        }

        boolean hasEntry(int entry) {
            return entry >= 0 && entry < entries;
        }

        long wordOf(int entry) {
            return hasEntry(entry) ? words[entry] : Word.EMPTY;
        }

        int linesOfAll() {
            int sum = 0;
            for (int entry = 0; entry < entries; entry++) {
                sum += lines[entry];
            }
            return sum;
        }

        int numberOf(long word) {
            int place = placeOf(word);
            return hasEntry(place) && words[place] == word ? place : NONE;
        }

        /** Adds an entry, or changes the lines of the one with this word; false if there is no place for one more. */
        boolean tell(long word, int newLines) {
            int place = placeOf(word);
            if (!hasEntry(place) || words[place] != word) {
                if (entries >= MOST_ENTRIES) {
                    return false;
                }
                makePlaceAt(place);
                words[place] = word;
            }
            lines[place] = newLines;
            return true;
        }

        void takeOut(int entry) {
            if (!hasEntry(entry)) {
                return;
            }
            for (int behind = entry + 1; behind < entries; behind++) {
                words[behind - 1] = words[behind];
                lines[behind - 1] = lines[behind];
            }
            entries--;
        }

        private int placeOf(long word) {
            for (int entry = 0; entry < entries; entry++) {
                if (words[entry] >= word) {
                    return entry;
                }
            }
            return entries;
        }

        private void makePlaceAt(int place) {
            for (int entry = entries; entry > place; entry--) {
                words[entry] = words[entry - 1];
                lines[entry] = lines[entry - 1];
            }
            entries++;
        }
    }

    /** The entries of a lexicon on their pages, as the last pass laid them. */
    private static final class Layout {
        final int[] beginPage = new int[MOST_ENTRIES];
        final int[] beginLine = new int[MOST_ENTRIES];
        final int[] endPage = new int[MOST_ENTRIES];
        final int[] first = new int[MOST_PAGES];
        final int[] last = new int[MOST_PAGES];
        final int[] begun = new int[MOST_PAGES];
        final int[] filled = new int[MOST_PAGES];
        final int[] headLines = new int[MOST_PAGES];
        private final int[] nextHeadLines = new int[MOST_PAGES];
        int pages = 0;
        int passes = 0;
        boolean isSettled = false;
        private int pagesBefore = 0;
        private int linesOfPage = 0;
        private int room = 0;

        void lay(Lexicon lexicon, int lines, int width, int keep) {
            linesOfPage = lines;
            pages = 0;
            isSettled = false;
            for (int pass = 1; pass <= MOST_PASSES && !isSettled; pass++) {
                passes = pass;
                pagesBefore = pages;
                layOnce(lexicon, keep);
                isSettled = askHeads(lexicon, width);
            }
        }

        private void layOnce(Lexicon lexicon, int keep) {
            pages = 0;
            // No page is open yet, so the first entry finds no room and opens page 0 itself.
            room = 0;
            for (int entry = 0; entry < lexicon.entries; entry++) {
                layEntry(entry, lexicon.lines[entry], keep);
            }
        }

        private void layEntry(int entry, int lines, int keep) {
            // Each page that is open here has a line on it, as the fourth rule asks.
            int here = linesHere(lines, keep);
            if (here == 0) {
                openPage();
                here = linesHere(lines, keep);
            }
            if (here == 0) {
                here = room;
            }
            begin(entry);
            fill(entry, here);
            int rest = lines - here;
            for (int turn = 0; turn < MOST_ENTRY_LINES && rest > 0; turn++) {
                openPage();
                int part = Math.min(rest, room);
                fill(entry, part);
                rest -= part;
            }
            endPage[entry] = pages - 1;
        }

        /** How many lines of an entry the first three rules put on the page of now; 0 if none of them fits. */
        private int linesHere(int lines, int keep) {
            if (lines <= room) {
                return lines;
            }
            if (room < keep) {
                return 0;
            }
            if (lines - room >= keep) {
                return room;
            }
            return lines - keep >= keep ? lines - keep : 0;
        }

        private void openPage() {
            if (pages >= MOST_PAGES) {
                return;
            }
            headLines[pages] = pages < pagesBefore ? nextHeadLines[pages] : 1;
            room = linesOfPage - headLines[pages];
            begun[pages] = 0;
            filled[pages] = 0;
            pages++;
        }

        private void begin(int entry) {
            int page = pages - 1;
            if (!hasPage(page)) {
                return;
            }
            beginPage[entry] = page;
            beginLine[entry] = filled[page];
            begun[page]++;
        }

        private void fill(int entry, int lines) {
            int page = pages - 1;
            if (!hasPage(page)) {
                return;
            }
            if (filled[page] == 0) {
                first[page] = entry;
            }
            last[page] = entry;
            filled[page] += lines;
            room -= lines;
        }

        /** Asks each head how many lines it would take; true if they are those that it took. */
        private boolean askHeads(Lexicon lexicon, int width) {
            boolean isSame = true;
            for (int page = 0; page < pages; page++) {
                nextHeadLines[page] = headWidth(page, lexicon) <= width ? 1 : 2;
                if (nextHeadLines[page] != headLines[page]) {
                    isSame = false;
                }
            }
            return isSame;
        }

        int headWidth(int page, Lexicon lexicon) {
            int width = Word.letters(lexicon.wordOf(first[page]));
            return last[page] == first[page] ? width : width + 1 + Word.letters(lexicon.wordOf(last[page]));
        }

        /** The code of a character of a head, 0 if the head has not so many. */
        int headCode(int page, int character, Lexicon lexicon) {
            long word = lexicon.wordOf(first[page]);
            int letters = Word.letters(word);
            if (character < letters || first[page] == last[page]) {
                return Word.code(word, character);
            }
            return character == letters ? '-' : Word.code(lexicon.wordOf(last[page]), character - letters - 1);
        }

        boolean hasPage(int page) {
            return page >= 0 && page < pages;
        }

        int folds() {
            return (pages + 1) / 2;
        }

        /** The last entry that begins on the page, or the last one of which a line is on it. */
        int leftName(int page) {
            // These are the same: if any entry begins on the page, the last one that is on it does.
            return last[page];
        }

        /** The first entry that begins on the page, or the first one of which a line is on it. */
        int rightName(int page) {
            // Those that begin on the page are the last ones that are on it.
            return begun[page] == 0 ? first[page] : last[page] - begun[page] + 1;
        }

        int blankLinesOf(int page) {
            return linesOfPage - headLines[page] - filled[page];
        }

        int blankLines() {
            int sum = 0;
            for (int page = 0; page < pages; page++) {
                sum += blankLinesOf(page);
            }
            return sum;
        }

        int pagesOf(int entry) {
            return endPage[entry] - beginPage[entry] + 1;
        }

        int pagesWithoutBegin() {
            int sum = 0;
            for (int page = 0; page < pages; page++) {
                if (begun[page] == 0) {
                    sum++;
                }
            }
            return sum;
        }

        int partedEntries(int entries) {
            int sum = 0;
            for (int entry = 0; entry < entries; entry++) {
                if (pagesOf(entry) > 1) {
                    sum++;
                }
            }
            return sum;
        }

        int headsOfTwoLines() {
            int sum = 0;
            for (int page = 0; page < pages; page++) {
                if (headLines[page] == 2) {
                    sum++;
                }
            }
            return sum;
        }
    }

    /** The text that entries and words are read from. */
    private static final class Pad {
        // The places of a text of entries. From 1 to 7 the place is the number of letters of the word so far.
        private static final int AHEAD_OF_WORD = 0, AHEAD_OF_LINES = 8;
        private static final int BEHIND_1_TO_3 = 9, BEHIND_4 = 10, BEHIND_LINES = 11, NOWHERE = 12;

        private final int[] codes = new int[MOST_PAD];
        int length = 0;

        void append(int code) {
            if (length < MOST_PAD) {
                codes[length] = code;
                length++;
            }
        }

        void empty() {
            length = 0;
        }

        boolean isWord() {
            if (length < 1 || length > MOST_LETTERS) {
                return false;
            }
            for (int i = 0; i < length; i++) {
                if (!isLetter(codes[i])) {
                    return false;
                }
            }
            return true;
        }

        long word() {
            long word = Word.EMPTY;
            for (int i = 0; i < length; i++) {
                word = Word.longer(word, codes[i]);
            }
            return word;
        }

        int firstFault() {
            int place = AHEAD_OF_WORD;
            for (int i = 0; i < length; i++) {
                place = placeBehind(place, codes[i]);
                if (place == NOWHERE) {
                    return i;
                }
            }
            return place >= BEHIND_1_TO_3 ? NONE : length;
        }

        /** Tells a lexicon the entries of a pad without a fault; false if it has no place for all of them. */
        boolean addEntriesTo(Lexicon lexicon) {
            long word = Word.EMPTY;
            int lines = 0;
            for (int i = 0; i < length; i++) {
                int code = codes[i];
                if (isLetter(code)) {
                    word = Word.longer(word, code);
                } else if (isDigit(code)) {
                    lines = 10 * lines + code - '0';
                } else if (code == ',') {
                    if (!lexicon.tell(word, lines)) {
                        return false;
                    }
                    word = Word.EMPTY;
                    lines = 0;
                }
            }
            return lexicon.tell(word, lines);
        }

        private static int placeBehind(int place, int code) {
            if (place < MOST_LETTERS && isLetter(code)) {
                return place + 1;
            }
            if (place > AHEAD_OF_WORD && place <= MOST_LETTERS && code == ':') {
                return AHEAD_OF_LINES;
            }
            if (place >= BEHIND_1_TO_3 && code == ',') {
                return AHEAD_OF_WORD;
            }
            return isDigit(code) ? placeBehindDigit(place, code) : NOWHERE;
        }

        private static int placeBehindDigit(int place, int digit) {
            if (place == AHEAD_OF_LINES && digit != '0') {
                if (digit == '4') {
                    return BEHIND_4;
                }
                return digit < '4' ? BEHIND_1_TO_3 : BEHIND_LINES;
            }
            return place == BEHIND_1_TO_3 || place == BEHIND_4 && digit == '0' ? BEHIND_LINES : NOWHERE;
        }

        private static boolean isLetter(int code) {
            return code >= 'a' && code <= 'z';
        }

        private static boolean isDigit(int code) {
            return code >= '0' && code <= '9';
        }
    }

    /** The states ahead of the latest changes, the oldest one first. */
    private static final class Past {
        private final Lexicon[] kept = new Lexicon[MOST_UNDO];
        int states = 0;

        Past() {
            for (int i = 0; i < MOST_UNDO; i++) {
                kept[i] = new Lexicon();
            }
        }

        void remember(Lexicon lexicon) {
            if (states >= MOST_UNDO) {
                dropOldest();
            }
            kept[states].copyOf(lexicon);
            states++;
        }

        void goBack(Lexicon lexicon) {
            if (states > 0) {
                states--;
                lexicon.copyOf(kept[states]);
            }
        }

        private void dropOldest() {
            Lexicon oldest = kept[0];
            for (int i = 1; i < MOST_UNDO; i++) {
                kept[i - 1] = kept[i];
            }
            kept[MOST_UNDO - 1] = oldest;
            states = MOST_UNDO - 1;
        }
    }
}
