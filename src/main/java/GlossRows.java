/**
 * Words glossed part by part: rows of words whose parts stand above their glosses, wrapped together
 * at a width, with gaps marked where a gloss is missing, sentences with free lines below them, and a
 * lexicon that learns glosses and fills gaps.
 *
 * <p>All objects are made by the constructor and used again by the calls, so that a call makes
 * nothing but the exception that it throws.
 */
public final class GlossRows {
    /** There is no such result. */
    public static final int NONE = -9;

    private static final int MOST_WORDS = 12;
    private static final int MOST_PARTS = 4;
    private static final int MOST_LETTERS = 8;
    private static final int MOST_FREE = 24;
    private static final int MOST_ENTRIES = 16;
    private static final int MOST_TEXT = 60;
    private static final int MOST_REMEMBERED = 14;
    private static final int MOST_COMMANDS = 4;
    private static final int MOST_ROUNDS = 99;
    private static final int MOST_ROWS_ASKED = 99;
    private static final int SLOTS = 2;

    private static final int LEAST_WIDTH = 10;
    private static final int MOST_WIDTH = 60;
    private static final int LEAST_SPACE = 1;
    private static final int MOST_SPACE = 3;
    private static final int ONE_BY_ONE = 0;
    private static final int ALIGNED = 1;

    // The numbers that about tells and set changes.
    private static final int WIDTH = 9;
    private static final int SPACE = 10;
    private static final int WAY = 11;

    // The kinds of rows; 1 is that of glosses.
    private static final int KIND_PARTS = 0;
    private static final int KIND_FREE = 2;

    private static final int BLANK = ' ';

    private final Text text = new Text();
    private final Reader reader = new Reader();
    private final Page page = new Page();
    private final Page trial = new Page();
    private final Layout layout = new Layout();
    private final History history = new History();
    private final Page[] slots = new Page[SLOTS];
    private final boolean[] saved = new boolean[SLOTS];

    /** Creates a page without words and with an empty lexicon. */
    public GlossRows() {
        for (int s = 0; s < SLOTS; s++) {
            slots[s] = new Page();
        }
    }

    // ---- text

    /** Appends a character to the text buffer; returns the new length of the text. */
    public int append(int c) throws IllegalArgumentException, IllegalStateException {
        if (c < 0 || c > 255) {
            throw new IllegalArgumentException("the character code is not 0 to 255");
        }
        if (text.length >= MOST_TEXT) {
            throw new IllegalStateException("the text is full");
        }
        text.add(c);
        return text.length;
    }

    /** Empties the text buffer; returns the previous length of the text. */
    public int clearText() {
        int before = text.length;
        text.length = 0;
        return before;
    }

    /** Returns the error position of the text as words; NONE if it is words. */
    public int errorPosition() {
        return reader.read(text);
    }

    /** Makes everything as in a new object, but keeps the text and adds its words. */
    public int load() throws IllegalStateException {
        if (reader.read(text) != NONE) {
            throw new IllegalStateException("the text is not words");
        }
        page.reset();
        page.addWords(reader, 0);
        history.clear();
        for (int s = 0; s < SLOTS; s++) {
            saved[s] = false;
        }
        return page.count;
    }

    // ---- what there is

    /** Returns a number of the page. */
    public int about(int what) throws IllegalArgumentException {
        switch (what) {
            case 0: return page.count;
            case 1: return page.countParts();
            case 2: return page.countGaps();
            case 3: return page.countSentences();
            case 4: return arranged(page).lineCount;
            case 5: return arranged(page).rowCount;
            case 6: return arranged(page).countWider(page, page.width);
            case 7: return page.lexicon.size;
            case 8: return page.countDiffering();
            case WIDTH: return page.width;
            case SPACE: return page.space;
            case WAY: return page.way;
            default: throw new IllegalArgumentException("what is not 0 to 11");
        }
    }

    /** Returns a number of a word. */
    public int word(int i, int what) throws IndexOutOfBoundsException, IllegalArgumentException {
        requireWord(i);
        switch (what) {
            case 0: return page.words[i].size;
            case 1: return page.words[i].width(page.way);
            case 2: return arranged(page).lines[i];
            case 3: return arranged(page).columns[i];
            case 4: return arranged(page).sentences[i];
            case 5: return page.words[i].ended ? 1 : 0;
            case 6: return page.words[i].countGaps();
            case 7: return page.words[i].freeLength;
            default: throw new IllegalArgumentException("what is not 0 to 7");
        }
    }

    /** Returns a number of a part. */
    public int part(int i, int p, int what) throws IndexOutOfBoundsException, IllegalArgumentException {
        requirePart(i, p);
        switch (what) {
            case 0: return Letters.length(page.words[i].parts[p]);
            case 1: return Letters.length(page.words[i].glosses[p]);
            case 2: return page.words[i].marks[p];
            case 3: return page.lexicon.find(page.words[i].parts[p]);
            default: throw new IllegalArgumentException("what is not 0 to 3");
        }
    }

    /** Returns a letter of a part or its gloss; NONE if there are not so many. */
    public int letter(int i, int p, boolean gloss, int k) throws IndexOutOfBoundsException, IllegalArgumentException {
        requirePart(i, p);
        requireNotNegative(k);
        return Letters.code(gloss ? page.words[i].glosses[p] : page.words[i].parts[p], k);
    }

    /** Returns a letter of an entry of the lexicon; NONE if there are not so many. */
    public int entry(int e, boolean gloss, int k) throws IndexOutOfBoundsException, IllegalArgumentException {
        requireEntry(e);
        requireNotNegative(k);
        return Letters.code(gloss ? page.lexicon.glosses[e] : page.lexicon.parts[e], k);
    }

    /** Returns a number of a row. */
    public int row(int r, int what) throws IndexOutOfBoundsException, IllegalArgumentException {
        requireRow(r);
        switch (what) {
            case 0: return layout.kindOfRow(page, r);
            case 1: return layout.lengthOfRow(page, r);
            case 2: return layout.sentenceOfRow(page, r);
            default: throw new IllegalArgumentException("what is not 0 to 2");
        }
    }

    /** Returns a character of a row; NONE if the column is not less than the length of the row. */
    public int at(int r, int column) throws IndexOutOfBoundsException, IllegalArgumentException {
        requireRow(r);
        requireNotNegative(column);
        return layout.codeInRow(page, r, column);
    }

    // ---- actions

    /** Inserts the words of the text, without ends, ahead of a word; returns the number of words then. */
    public int insert(int i) throws IndexOutOfBoundsException, IllegalStateException {
        if (i < 0 || i > page.count) {
            throw new IndexOutOfBoundsException("the place is not 0 to the number of words");
        }
        if (reader.read(text) != NONE) {
            throw new IllegalStateException("the text is not words");
        }
        if (page.count + reader.count > MOST_WORDS) {
            throw new IllegalStateException("there would be more than 12 words");
        }
        history.remember(page);
        page.addWords(reader, i);
        return page.count;
    }

    /** Removes a word, with its end and its free line; returns the number of words then. */
    public int remove(int i) throws IndexOutOfBoundsException {
        requireWord(i);
        history.remember(page);
        page.dropWord(i);
        return page.count;
    }

    /** Gives a word an end of its own; returns the number of sentences then. */
    public int end(int i) throws IndexOutOfBoundsException {
        requireWord(i);
        history.remember(page);
        page.words[i].ended = true;
        return page.countSentences();
    }

    /** Takes the end of its own, and the free line, away from a word; returns the number of sentences then. */
    public int join(int i) throws IndexOutOfBoundsException {
        requireWord(i);
        history.remember(page);
        page.words[i].dropEnd();
        return page.countSentences();
    }

    /** Makes the text the free line of a word; returns the length of the free line then. */
    public int setFree(int i) throws IndexOutOfBoundsException, IllegalStateException {
        requireWord(i);
        if (!text.isFreeLine()) {
            throw new IllegalStateException("the text is not a free line");
        }
        history.remember(page);
        page.words[i].takeFree(text);
        return page.words[i].freeLength;
    }

    /** Makes the text the gloss of a part; returns the number of gaps then. */
    public int setGloss(int i, int p) throws IndexOutOfBoundsException, IllegalStateException {
        requirePart(i, p);
        if (!text.isGloss()) {
            throw new IllegalStateException("the text is not a gloss");
        }
        history.remember(page);
        page.words[i].glosses[p] = text.letters();
        return page.countGaps();
    }

    /** Changes the width, the space or the way; returns the previous number. */
    public int set(int what, int v) throws IllegalArgumentException {
        if (!Page.allows(what, v)) {
            throw new IllegalArgumentException("this is not to be set, or not to this number");
        }
        history.remember(page);
        return page.change(what, v);
    }

    /** Lets the lexicon learn the gloss of a part; returns the number of entries then. */
    public int learn(int i, int p) throws IndexOutOfBoundsException, IllegalStateException {
        requirePart(i, p);
        if (!page.canLearn(i, p)) {
            throw new IllegalStateException("the part is a gap, or the lexicon is full");
        }
        history.remember(page);
        page.learnPart(i, p);
        return page.lexicon.size;
    }

    /** Lets the lexicon forget an entry; returns the number of entries then. */
    public int forget(int e) throws IndexOutOfBoundsException {
        requireEntry(e);
        history.remember(page);
        page.lexicon.drop(e);
        return page.lexicon.size;
    }

    /** Fills all gaps whose parts are in the lexicon with its glosses; returns how many were filled. */
    public int fillGaps() {
        history.remember(page);
        return page.fill();
    }

    /** Takes back the last action that is remembered; returns how many states are still remembered. */
    public int undo() throws IllegalStateException {
        if (history.count == 0) {
            throw new IllegalStateException("no state is remembered");
        }
        history.takeBack(page);
        return history.count;
    }

    // ---- what is found

    /** Returns 10 * (word) + (part) of a gap; NONE if there are not so many. */
    public int gap(int k) throws IllegalArgumentException {
        requireNotNegative(k);
        return page.placeOfGap(k);
    }

    /** Returns 10 * (word) + (part) of the first occurrence of the part that occurs most often. */
    public int mostUsed() {
        return page.placeOfMostUsed();
    }

    /** Returns the smallest width with which there are at most so many rows; NONE if there is none. */
    public int widthFor(int rows) throws IllegalArgumentException {
        if (rows < 0 || rows > MOST_ROWS_ASKED) {
            throw new IllegalArgumentException("the number of rows is not 0 to 99");
        }
        layout.measure(page, page.way);
        for (int width = LEAST_WIDTH; width <= MOST_WIDTH; width++) {
            layout.wrap(page, width);
            if (layout.rowCount <= rows) {
                return width;
            }
        }
        return NONE;
    }

    /** Returns the sum, over all lines whose length is at most W, of W minus the length. */
    public int empty() {
        return arranged(page).countEmpty(page, page.width);
    }

    /** Returns the number of rows that there would be with another width and way. */
    public int rowsWith(int width, int way) throws IllegalArgumentException {
        if (!Page.allows(WIDTH, width) || !Page.allows(WAY, way)) {
            throw new IllegalArgumentException("the width is not 10 to 60, or the way not 0 or 1");
        }
        layout.measure(page, way);
        layout.wrap(page, width);
        return layout.rowCount;
    }

    // ---- scripts, simulations

    /** Runs a script on a copy of the state; returns the index of the first command that fails, or NONE. */
    public int runScript(int n, long script) throws IllegalArgumentException {
        if (n < 1 || n > MOST_COMMANDS) {
            throw new IllegalArgumentException("the number of commands is not 1 to 4");
        }
        if (script < 0 || withoutLowest(script, n) != 0) {
            throw new IllegalArgumentException("the script is negative or has too many digits");
        }
        trial.copyFrom(page);
        for (int k = 0; k < n; k++) {
            if (!succeeds((int) (withoutLowest(script, n - 1 - k) % 10000))) {
                return k;
            }
        }
        return NONE;
    }

    /** Returns the sum of the numbers of rows behind all rounds of a simulation on a copy of the state. */
    public int simulate(long seed, int m) throws IllegalArgumentException {
        if (m < 1 || m > MOST_ROUNDS) {
            throw new IllegalArgumentException("the number of rounds is not 1 to 99");
        }
        trial.copyFrom(page);
        long x = seed;
        int sum = 0;
        for (int round = 0; round < m; round++) {
            x = x * 6364136223846793005L + 1442695040888963407L;
            playRound((int) (x >>> 33));
            sum += arranged(trial).rowCount;
        }
        return sum;
    }

    // ---- save slots

    /** Stores the present state in a save slot; returns the number of words. */
    public int save(int slot) throws IndexOutOfBoundsException {
        requireSlot(slot);
        slots[slot].copyFrom(page);
        saved[slot] = true;
        return page.count;
    }

    /** Replaces the state by the one in a save slot; returns the number of words then. */
    public int restore(int slot) throws IndexOutOfBoundsException, IllegalStateException {
        requireSlot(slot);
        if (!saved[slot]) {
            throw new IllegalStateException("nothing has been saved in this slot");
        }
        page.copyFrom(slots[slot]);
        history.clear();
        return page.count;
    }

    // ---- what the arguments must be

    private void requireWord(int i) {
        if (!page.hasWord(i)) {
            throw new IndexOutOfBoundsException("there is no such word");
        }
    }

    private void requirePart(int i, int p) {
        if (!page.hasPart(i, p)) {
            throw new IndexOutOfBoundsException("there is no such word or part");
        }
    }

    private void requireEntry(int e) {
        if (e < 0 || e >= page.lexicon.size) {
            throw new IndexOutOfBoundsException("there is no such entry");
        }
    }

    /** Leaves the page arranged in the layout. */
    private void requireRow(int r) {
        if (r < 0 || r >= arranged(page).rowCount) {
            throw new IndexOutOfBoundsException("there is no such row");
        }
    }

    private void requireSlot(int slot) {
        if (slot < 0 || slot >= SLOTS) {
            throw new IndexOutOfBoundsException("there is no such save slot");
        }
    }

    private void requireNotNegative(int number) {
        if (number < 0) {
            throw new IllegalArgumentException("the number is negative");
        }
    }

    // ---- what the calls share

    private Layout arranged(Page shown) {
        layout.measure(shown, shown.way);
        layout.wrap(shown, shown.width);
        return layout;
    }

    /** The script without its last commands. */
    private static long withoutLowest(long script, int commands) {
        long rest = script;
        for (int k = 0; k < commands; k++) {
            rest /= 10000;
        }
        return rest;
    }

    /** Carries out a command of a script on the trial page. */
    private boolean succeeds(int command) {
        int kind = command / 1000;
        int second = command / 100 % 10;
        int number = command % 100;
        if (kind == 6) {
            return learnsOnTrial(number, second);
        }
        if (second != 0) {
            return false;
        }
        switch (kind) {
            case 1: return setsOnTrial(WIDTH, number);
            case 2: return setsOnTrial(WAY, number);
            case 3:
            case 4:
            case 5: return changesWordOfTrial(kind, number);
            case 7: return number == 0 && fillsTrial();
            case 8: return arranged(trial).rowCount <= number;
            case 9: return trial.countGaps() == number;
            default: return false;
        }
    }

    private boolean setsOnTrial(int what, int v) {
        if (!Page.allows(what, v)) {
            return false;
        }
        trial.change(what, v);
        return true;
    }

    private boolean changesWordOfTrial(int kind, int i) {
        if (!trial.hasWord(i)) {
            return false;
        }
        if (kind == 3) {
            trial.words[i].ended = true;
        } else if (kind == 4) {
            trial.words[i].dropEnd();
        } else {
            trial.dropWord(i);
        }
        return true;
    }

    private boolean learnsOnTrial(int i, int p) {
        if (!trial.canLearn(i, p)) {
            return false;
        }
        trial.learnPart(i, p);
        return true;
    }

    private boolean fillsTrial() {
        trial.fill();
        return true;
    }

    /** Makes the change of one round of a simulation, told by a number of 0 or more, on the trial page. */
    private void playRound(int r) {
        int choice = r / 4;
        switch (r % 4) {
            case 0:
                trial.change(WIDTH, LEAST_WIDTH + choice % 51);
                break;
            case 1:
                trial.change(WAY, choice % 2);
                break;
            case 2:
                trial.change(SPACE, LEAST_SPACE + choice % 3);
                break;
            default:
                if (trial.count > 0) {
                    trial.words[choice % trial.count].turnEnd();
                }
                break;
        }
    }

    /**
     * Up to eight signs in one long: seven bits for each, the first sign highest, and their number in
     * the lowest four bits. So two of them are equal as numbers just if their signs are, and the
     * smaller number comes first in the alphabet.
     */
    private static final class Letters {
        private static final int CODE_BITS = 7;
        private static final int LENGTH_BITS = 4;

        static int length(long letters) {
            return (int) (letters & 15);
        }

        /** The code of a sign; NONE if there are not so many. */
        static int code(long letters, int k) {
            if (k < 0 || k >= length(letters)) {
                return NONE;
            }
            return (int) (letters >>> placeOf(k)) & 127;
        }

        /** The letters with one more sign behind them; eight letters stay as they are. */
        static long with(long letters, int code) {
            int k = length(letters);
            if (k >= MOST_LETTERS) {
                return letters;
            }
            return letters + ((long) code << placeOf(k)) + 1;
        }

        private static int placeOf(int k) {
            return LENGTH_BITS + CODE_BITS * (MOST_LETTERS - 1 - k);
        }

        static boolean isLetter(int c) {
            return c >= 'a' && c <= 'z';
        }

        static boolean isGlossLetter(int c) {
            return isLetter(c) || c == '.';
        }

        static boolean isMark(int c) {
            return c == '-' || c == '=';
        }
    }

    /** The text buffer. */
    private static final class Text {
        final int[] codes = new int[MOST_TEXT];
        int length;

        /** A full text stays as it is. */
        void add(int c) {
            if (length < MOST_TEXT) {
                codes[length] = c;
                length++;
            }
        }

        boolean isFreeLine() {
            for (int k = 0; k < length; k++) {
                if (codes[k] < 32 || codes[k] > 126) {
                    return false;
                }
            }
            return length <= MOST_FREE;
        }

        boolean isGloss() {
            for (int k = 0; k < length; k++) {
                if (!Letters.isGlossLetter(codes[k])) {
                    return false;
                }
            }
            return length <= MOST_LETTERS;
        }

        /** The signs of a text that is a gloss. */
        long letters() {
            long letters = 0;
            for (int k = 0; k < length; k++) {
                letters = Letters.with(letters, codes[k]);
            }
            return letters;
        }
    }

    /** A word: its parts with their glosses, the marks ahead of them, its own end and its free line. */
    private static final class Word {
        /** A gap is shown as a gloss of this one sign. */
        private static final int GAP_SIGN = '*';

        final long[] parts = new long[MOST_PARTS];
        final long[] glosses = new long[MOST_PARTS];
        final int[] marks = new int[MOST_PARTS];
        final int[] free = new int[MOST_FREE];
        int size;
        int freeLength;
        boolean ended;

        void reset() {
            size = 0;
            freeLength = 0;
            ended = false;
        }

        void copyFrom(Word other) {
            size = other.size;
            freeLength = other.freeLength;
            ended = other.ended;
            for (int p = 0; p < size; p++) {
                parts[p] = other.parts[p];
                glosses[p] = other.glosses[p];
                marks[p] = other.marks[p];
            }
            for (int k = 0; k < freeLength; k++) {
                free[k] = other.free[k];
            }
        }

        /** Opens a part, without letters as yet; a word of four parts stays as it is. */
        void openPart(int mark) {
            if (size < MOST_PARTS) {
                parts[size] = 0;
                glosses[size] = 0;
                marks[size] = mark;
                size++;
            }
        }

        void dropEnd() {
            ended = false;
            freeLength = 0;
        }

        void turnEnd() {
            if (ended) {
                dropEnd();
            } else {
                ended = true;
            }
        }

        /** Takes a text that is a free line; an empty one leaves the end as it is. */
        void takeFree(Text text) {
            freeLength = Math.min(text.length, MOST_FREE);
            for (int k = 0; k < freeLength; k++) {
                free[k] = text.codes[k];
            }
            if (freeLength > 0) {
                ended = true;
            }
        }

        int countGaps() {
            int gaps = 0;
            for (int p = 0; p < size; p++) {
                if (glosses[p] == 0) {
                    gaps++;
                }
            }
            return gaps;
        }

        int width(int way) {
            int ofParts = 0;
            int ofGlosses = 0;
            int ofBoth = 0;
            for (int p = 0; p < size; p++) {
                int partLength = Letters.length(parts[p]);
                int glossLength = Letters.length(shownGloss(p));
                ofParts += partLength;
                ofGlosses += glossLength;
                ofBoth += Math.max(partLength, glossLength);
            }
            return size - 1 + (way == ALIGNED ? ofBoth : Math.max(ofParts, ofGlosses));
        }

        /** What the word shows in a column of its own, in its row of parts or in that of glosses. */
        int codeShown(int kind, int way, int column) {
            int left = column;
            for (int p = 0; p < size; p++) {
                long shown = kind == KIND_PARTS ? parts[p] : shownGloss(p);
                int room = Letters.length(shown);
                if (way == ALIGNED) {
                    room = Math.max(Letters.length(parts[p]), Letters.length(shownGloss(p)));
                }
                if (left < room) {
                    return left < Letters.length(shown) ? Letters.code(shown, left) : BLANK;
                }
                if (left == room) {
                    return p + 1 < size ? marks[p + 1] : BLANK;
                }
                left -= room + 1;
            }
            return BLANK;
        }

        int codeOfFree(int k) {
            return k >= 0 && k < freeLength ? free[k] : NONE;
        }

        private long shownGloss(int p) {
            return glosses[p] == 0 ? Letters.with(0, GAP_SIGN) : glosses[p];
        }
    }

    /** Parts with their glosses, in the order of the alphabet. */
    private static final class Lexicon {
        final long[] parts = new long[MOST_ENTRIES];
        final long[] glosses = new long[MOST_ENTRIES];
        int size;

        void copyFrom(Lexicon other) {
            size = other.size;
            for (int e = 0; e < size; e++) {
                parts[e] = other.parts[e];
                glosses[e] = other.glosses[e];
            }
        }

        /** The entry that has a part; NONE if there is none. */
        int find(long part) {
            for (int e = 0; e < size; e++) {
                if (parts[e] == part) {
                    return e;
                }
            }
            return NONE;
        }

        boolean canTake(long part) {
            return size < MOST_ENTRIES || find(part) != NONE;
        }

        /** Takes a gloss for a part; a full lexicon without the part stays as it is. */
        void take(long part, long gloss) {
            int e = find(part);
            if (e == NONE) {
                e = makePlaceFor(part);
            }
            if (e != NONE) {
                parts[e] = part;
                glosses[e] = gloss;
            }
        }

        private int makePlaceFor(long part) {
            if (size >= MOST_ENTRIES) {
                return NONE;
            }
            int place = size;
            while (place > 0 && parts[place - 1] > part) {
                parts[place] = parts[place - 1];
                glosses[place] = glosses[place - 1];
                place--;
            }
            size++;
            return place;
        }

        void drop(int dropped) {
            if (dropped < 0 || dropped >= size) {
                return;
            }
            size--;
            for (int e = dropped; e < size; e++) {
                parts[e] = parts[e + 1];
                glosses[e] = glosses[e + 1];
            }
        }
    }

    /** A state: all but the text and the save slots. */
    private static final class Page {
        final Word[] words = new Word[MOST_WORDS];
        final Lexicon lexicon = new Lexicon();
        int count;
        int width;
        int space;
        int way;

        Page() {
            for (int i = 0; i < MOST_WORDS; i++) {
                words[i] = new Word();
            }
            reset();
        }

        void reset() {
            count = 0;
            lexicon.size = 0;
            width = 30;
            space = 2;
            way = ALIGNED;
        }

        void copyFrom(Page other) {
            count = other.count;
            for (int i = 0; i < count; i++) {
                words[i].copyFrom(other.words[i]);
            }
            lexicon.copyFrom(other.lexicon);
            width = other.width;
            space = other.space;
            way = other.way;
        }

        boolean hasWord(int i) {
            return i >= 0 && i < count;
        }

        boolean hasPart(int i, int p) {
            return hasWord(i) && p >= 0 && p < words[i].size;
        }

        /** Adds the words that were read ahead of a word; words that have no room change nothing. */
        void addWords(Reader reader, int place) {
            int more = reader.count;
            if (place < 0 || place > count || count + more > MOST_WORDS) {
                return;
            }
            for (int i = count - 1; i >= place; i--) {
                words[i + more].copyFrom(words[i]);
            }
            for (int i = 0; i < more; i++) {
                words[place + i].copyFrom(reader.words[i]);
            }
            count += more;
        }

        void dropWord(int dropped) {
            if (!hasWord(dropped)) {
                return;
            }
            count--;
            for (int i = dropped; i < count; i++) {
                words[i].copyFrom(words[i + 1]);
            }
        }

        static boolean allows(int what, int v) {
            switch (what) {
                case WIDTH: return v >= LEAST_WIDTH && v <= MOST_WIDTH;
                case SPACE: return v >= LEAST_SPACE && v <= MOST_SPACE;
                case WAY: return v == ONE_BY_ONE || v == ALIGNED;
                default: return false;
            }
        }

        /** Sets what is allowed; returns the previous number. */
        int change(int what, int v) {
            int before = width;
            if (what == WIDTH) {
                width = v;
            } else if (what == SPACE) {
                before = space;
                space = v;
            } else {
                before = way;
                way = v;
            }
            return before;
        }

        boolean canLearn(int i, int p) {
            return hasPart(i, p) && words[i].glosses[p] != 0 && lexicon.canTake(words[i].parts[p]);
        }

        void learnPart(int i, int p) {
            if (canLearn(i, p)) {
                lexicon.take(words[i].parts[p], words[i].glosses[p]);
            }
        }

        /** Fills the gaps that the lexicon knows; returns how many they were. */
        int fill() {
            int filled = 0;
            for (int i = 0; i < count; i++) {
                for (int p = 0; p < words[i].size; p++) {
                    int e = lexicon.find(words[i].parts[p]);
                    if (words[i].glosses[p] == 0 && e != NONE) {
                        words[i].glosses[p] = lexicon.glosses[e];
                        filled++;
                    }
                }
            }
            return filled;
        }

        int countParts() {
            int all = 0;
            for (int i = 0; i < count; i++) {
                all += words[i].size;
            }
            return all;
        }

        int countGaps() {
            int gaps = 0;
            for (int i = 0; i < count; i++) {
                gaps += words[i].countGaps();
            }
            return gaps;
        }

        int countSentences() {
            int sentences = 0;
            for (int i = 0; i < count; i++) {
                if (words[i].ended || i == count - 1) {
                    sentences++;
                }
            }
            return sentences;
        }

        /** The parts that are no gaps and have another gloss in the lexicon. */
        int countDiffering() {
            int differing = 0;
            for (int i = 0; i < count; i++) {
                for (int p = 0; p < words[i].size; p++) {
                    long gloss = words[i].glosses[p];
                    int e = lexicon.find(words[i].parts[p]);
                    if (gloss != 0 && e != NONE && lexicon.glosses[e] != gloss) {
                        differing++;
                    }
                }
            }
            return differing;
        }

        int placeOfGap(int k) {
            int before = 0;
            for (int i = 0; i < count; i++) {
                for (int p = 0; p < words[i].size; p++) {
                    if (words[i].glosses[p] == 0) {
                        if (before == k) {
                            return 10 * i + p;
                        }
                        before++;
                    }
                }
            }
            return NONE;
        }

        int placeOfMostUsed() {
            int place = NONE;
            int most = 0;
            long mostUsed = 0;
            for (int i = 0; i < count; i++) {
                for (int p = 0; p < words[i].size; p++) {
                    long part = words[i].parts[p];
                    int uses = countUses(part);
                    if (uses > most || uses == most && part < mostUsed) {
                        place = 10 * i + p;
                        most = uses;
                        mostUsed = part;
                    }
                }
            }
            return place;
        }

        private int countUses(long part) {
            int uses = 0;
            for (int i = 0; i < count; i++) {
                for (int p = 0; p < words[i].size; p++) {
                    if (words[i].parts[p] == part) {
                        uses++;
                    }
                }
            }
            return uses;
        }
    }

    /** Reads a text as words, from left to right. */
    private static final class Reader {
        final Word[] words = new Word[MOST_WORDS];
        int count;
        private Word current;
        private boolean inGlosses;
        /** The part that is read, or whose gloss is. */
        private int place;

        Reader() {
            for (int i = 0; i < MOST_WORDS; i++) {
                words[i] = new Word();
            }
            current = words[0];
        }

        /** Returns the error position; if it is NONE, what was read are the words. */
        int read(Text text) {
            count = 0;
            openWord();
            for (int k = 0; k < text.length; k++) {
                if (!takes(text.codes[k])) {
                    return k;
                }
            }
            return isWordWhole() ? NONE : text.length;
        }

        private void openWord() {
            if (count < MOST_WORDS) {
                current = words[count];
                count++;
                current.reset();
                current.openPart(NONE);
                inGlosses = false;
                place = 0;
            }
        }

        /** Takes a character if it is allowed at its place. */
        private boolean takes(int c) {
            if (c == BLANK) {
                return takesBlank();
            }
            if (c == ':') {
                return takesColon();
            }
            if (Letters.isMark(c)) {
                return inGlosses ? takesMarkOfGlosses(c) : takesMarkOfParts(c);
            }
            return inGlosses ? takesGlossLetter(c) : takesLetter(c);
        }

        private boolean takesBlank() {
            if (!isWordWhole() || count >= MOST_WORDS) {
                return false;
            }
            openWord();
            return true;
        }

        private boolean takesColon() {
            if (inGlosses || !hasPartLetters()) {
                return false;
            }
            inGlosses = true;
            place = 0;
            return true;
        }

        private boolean takesMarkOfParts(int c) {
            if (!hasPartLetters() || current.size >= MOST_PARTS) {
                return false;
            }
            current.openPart(c);
            place++;
            return true;
        }

        private boolean takesMarkOfGlosses(int c) {
            if (place + 1 >= current.size || current.marks[place + 1] != c) {
                return false;
            }
            place++;
            return true;
        }

        private boolean takesLetter(int c) {
            if (!Letters.isLetter(c) || Letters.length(current.parts[place]) >= MOST_LETTERS) {
                return false;
            }
            current.parts[place] = Letters.with(current.parts[place], c);
            return true;
        }

        private boolean takesGlossLetter(int c) {
            if (!Letters.isGlossLetter(c) || Letters.length(current.glosses[place]) >= MOST_LETTERS) {
                return false;
            }
            current.glosses[place] = Letters.with(current.glosses[place], c);
            return true;
        }

        private boolean isWordWhole() {
            return inGlosses ? place == current.size - 1 : hasPartLetters();
        }

        private boolean hasPartLetters() {
            return Letters.length(current.parts[place]) > 0;
        }
    }

    /**
     * Where the words of a page stand. It is made anew for each question and asked about the page and
     * the width that it was made for.
     */
    private static final class Layout {
        private static final int ROWS_OF_LINE = 2;

        final int[] lines = new int[MOST_WORDS];
        final int[] columns = new int[MOST_WORDS];
        final int[] sentences = new int[MOST_WORDS];
        int lineCount;
        int rowCount;
        private final int[] widths = new int[MOST_WORDS];
        private final int[] firstRows = new int[MOST_WORDS];

        void measure(Page page, int way) {
            for (int i = 0; i < page.count; i++) {
                widths[i] = page.words[i].width(way);
            }
        }

        /** Sets the measured words in lines. */
        void wrap(Page page, int width) {
            int behind = 0;
            int sentence = 0;
            boolean begins = true;
            lineCount = 0;
            rowCount = 0;
            for (int i = 0; i < page.count; i++) {
                int column = behind + page.space;
                if (begins || column + widths[i] > width) {
                    column = 0;
                    lineCount++;
                    rowCount += ROWS_OF_LINE;
                }
                lines[i] = lineCount - 1;
                columns[i] = column;
                sentences[i] = sentence;
                firstRows[i] = rowCount - ROWS_OF_LINE;
                behind = column + widths[i];
                begins = page.words[i].ended;
                if (begins) {
                    sentence++;
                    rowCount += rowsOfFree(page.words[i].freeLength, width);
                }
            }
        }

        private static int rowsOfFree(int length, int width) {
            return width < 1 ? 0 : (length + width - 1) / width;
        }

        int countWider(Page page, int width) {
            int wider = 0;
            for (int i = 0; i < page.count; i++) {
                if (widths[i] > width) {
                    wider++;
                }
            }
            return wider;
        }

        int countEmpty(Page page, int width) {
            int empty = 0;
            for (int i = 0; i < page.count; i++) {
                boolean isLast = i == page.count - 1 || lines[i + 1] != lines[i];
                if (isLast) {
                    empty += Math.max(0, width - columns[i] - widths[i]);
                }
            }
            return empty;
        }

        int kindOfRow(Page page, int r) {
            // The two rows of a line stand in the order of their kinds, and only a free line is below them.
            return Math.min(r - firstRows[lastWordOfRow(page, r)], KIND_FREE);
        }

        int lengthOfRow(Page page, int r) {
            int last = lastWordOfRow(page, r);
            if (kindOfRow(page, r) == KIND_FREE) {
                return Math.min(page.width, page.words[last].freeLength - beginInFree(page, r));
            }
            return columns[last] + widths[last];
        }

        int sentenceOfRow(Page page, int r) {
            return sentences[lastWordOfRow(page, r)];
        }

        int codeInRow(Page page, int r, int column) {
            if (column >= lengthOfRow(page, r)) {
                return NONE;
            }
            int last = lastWordOfRow(page, r);
            int kind = kindOfRow(page, r);
            if (kind == KIND_FREE) {
                return page.words[last].codeOfFree(beginInFree(page, r) + column);
            }
            for (int i = last; i >= 0 && lines[i] == lines[last]; i--) {
                if (column >= columns[i]) {
                    return page.words[i].codeShown(kind, page.way, column - columns[i]);
                }
            }
            return BLANK;
        }

        /** The index in the free line of the first character that a row of it shows. */
        private int beginInFree(Page page, int r) {
            return (r - firstRows[lastWordOfRow(page, r)] - ROWS_OF_LINE) * page.width;
        }

        /** The last word of the line whose row this is, or of the line that the row of a free line is below. */
        private int lastWordOfRow(Page page, int r) {
            int last = 0;
            for (int i = 1; i < page.count; i++) {
                if (firstRows[i] <= r) {
                    last = i;
                }
            }
            return last;
        }
    }

    /** The states that are remembered, in a ring. */
    private static final class History {
        private final Page[] pages = new Page[MOST_REMEMBERED];
        int count;
        private int oldest;

        History() {
            for (int k = 0; k < MOST_REMEMBERED; k++) {
                pages[k] = new Page();
            }
        }

        void clear() {
            count = 0;
            oldest = 0;
        }

        /** Remembers a state; if too many are remembered, the oldest one is forgotten. */
        void remember(Page page) {
            pages[(oldest + count) % MOST_REMEMBERED].copyFrom(page);
            if (count < MOST_REMEMBERED) {
                count++;
            } else {
                oldest = (oldest + 1) % MOST_REMEMBERED;
            }
        }

        /** Brings the state back that was remembered last, if there is one, and forgets it. */
        void takeBack(Page page) {
            if (count > 0) {
                count--;
                page.copyFrom(pages[(oldest + count) % MOST_REMEMBERED]);
            }
        }
    }
}
