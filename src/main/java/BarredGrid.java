import java.util.Arrays;

/** A barred crossword with its words, its hidden line, undo and two save slots. */
public final class BarredGrid {
    public static final int NONE = -9;

    private static final int MOST_CELLS = 36;
    private static final int MOST_WORDS = 8;
    private static final int MOST_LETTERS = 6;
    private static final int MOST_TEXT = 150;
    private static final int MOST_REMEMBERED = 14;
    private static final int MOST_POSSIBLE = 9999;
    private static final int MOST_SIMULATED_READINGS = 9;
    private static final int NO_LIMIT = 2147483647;
    private static final int SLOTS = 2;
    private static final int RULES = 5;
    private static final int EMPTY = 0;
    private static final int END_OF_TEXT = -1;
    private static final int GROUP = 100000;

    // In row-major order, so that the cells that the steps lead to ascend.
    private static final int[] STEP_ROWS = {-2, -2, -1, -1, 1, 1, 2, 2};
    private static final int[] STEP_COLUMNS = {-1, 1, -2, 2, -2, 2, -1, 1};

    private final TextBuffer text = new TextBuffer();
    private final Puzzle now = new Puzzle();
    private final Puzzle trial = new Puzzle();
    private final Memory memory = new Memory();
    private final LineSearch search = new LineSearch();
    private final Filler filler = new Filler();

    public BarredGrid() {
    }

    // ---- text

    public int append(int c) throws IllegalArgumentException, IllegalStateException {
        if (c < 0 || c > 255) {
            throw new IllegalArgumentException("no character code");
        }
        if (text.isFull()) {
            throw new IllegalStateException("the text is full");
        }
        return text.add(c);
    }

    public int clearText() {
        return text.empty();
    }

    public int errorPosition() {
        return text.readGrid();
    }

    public int load() throws IllegalStateException {
        if (text.readGrid() != NONE) {
            throw new IllegalStateException("the text is not a grid");
        }
        now.take(text.grid);
        memory.forgetActions();
        memory.emptySlots();
        return now.state.cells();
    }

    // ---- what there is

    public int about(int what) throws IllegalArgumentException {
        switch (what) {
            case 0: return now.state.rows;
            case 1: return now.state.columns;
            case 2: return now.entryCount;
            case 3: return now.acrossCount;
            case 4: return now.cellsInEntries(2);
            case 5: return now.cellsInEntries(1);
            case 6: return now.state.emptyCells();
            case 7: return now.state.barCount();
            case 8: return now.state.wordCount;
            case 9: return now.state.lineLength;
            case 10: return now.greatestClue;
            default: throw new IllegalArgumentException("what is not 0 to 10");
        }
    }

    public int cell(int c, int what) throws IndexOutOfBoundsException, IllegalArgumentException {
        requireCell(c);
        switch (what) {
            case 0: return now.state.letterAt(c);
            case 1: return now.state.hasBar(c, false) ? 1 : 0;
            case 2: return now.state.hasBar(c, true) ? 1 : 0;
            case 3: return now.entryAt(c, false);
            case 4: return now.entryAt(c, true);
            case 5: return now.entriesAt(c);
            case 6: return now.clueAt(c);
            default: throw new IllegalArgumentException("what is not 0 to 6");
        }
    }

    public int entry(int e, int what) throws IndexOutOfBoundsException, IllegalArgumentException {
        requireEntry(e);
        switch (what) {
            case 0: return now.cellOf(e, 0);
            case 1: return now.isDown(e) ? 1 : 0;
            case 2: return now.lengthOf(e);
            case 3: return now.uncheckedIn(e);
            case 4: return now.emptyIn(e);
            case 5: return now.clueAt(now.cellOf(e, 0));
            case 6: return now.wordIn(e);
            default: throw new IllegalArgumentException("what is not 0 to 6");
        }
    }

    public int word(int w, int i) throws IndexOutOfBoundsException, IllegalArgumentException {
        requireWord(w);
        if (i < 0) {
            throw new IllegalArgumentException("no such letter");
        }
        return now.state.letterOfWord(w, i);
    }

    public int fits(int e) throws IndexOutOfBoundsException {
        requireEntry(e);
        return now.fitCount(e);
    }

    public boolean rule(int k) throws IllegalArgumentException {
        if (k < 0 || k >= RULES) {
            throw new IllegalArgumentException("no such rule");
        }
        return Rules.areKept(now, k);
    }

    public int readings() {
        return search.count(now, false, NO_LIMIT);
    }

    public int reading(int i) throws IllegalArgumentException {
        if (i < 0) {
            throw new IllegalArgumentException("no such cell of a reading");
        }
        int found = search.count(now, false, 1);
        return found > 0 ? search.cellOfFirst(i) : NONE;
    }

    // ---- actions

    public int put(int c, int letter) throws IndexOutOfBoundsException, IllegalArgumentException {
        requireCell(c);
        if (letter != EMPTY && !isLetter(letter)) {
            throw new IllegalArgumentException("neither a letter nor 0");
        }
        memory.remember(now.state);
        int previous = now.state.letterAt(c);
        now.state.setLetter(c, letter);
        return previous;
    }

    public int setBar(int c, boolean below, boolean is) throws IndexOutOfBoundsException, IllegalArgumentException {
        requireCell(c);
        if (!now.state.isPlace(c, below)) {
            throw new IllegalArgumentException("there is the rim");
        }
        memory.remember(now.state);
        now.changeBar(c, below, is);
        return now.entryCount;
    }

    public int addWord() throws IllegalStateException {
        if (!text.isWord(2) || now.state.wordCount >= MOST_WORDS) {
            throw new IllegalStateException("the text is no word, or there are 8 words");
        }
        memory.remember(now.state);
        now.state.beginWord();
        for (int i = 0; i < text.length; i++) {
            now.state.lengthenWord(text.signAt(i));
        }
        return now.state.wordCount - 1;
    }

    public int setLine() throws IllegalStateException {
        if (!text.isWord(1)) {
            throw new IllegalStateException("the text is no line");
        }
        memory.remember(now.state);
        now.state.lineLength = 0;
        for (int i = 0; i < text.length; i++) {
            now.state.lengthenLine(text.signAt(i));
        }
        return now.state.lineLength;
    }

    public int write(int e, int w) throws IndexOutOfBoundsException, IllegalStateException {
        requireEntry(e);
        requireWord(w);
        if (!now.fitsWord(e, w)) {
            throw new IllegalStateException("the entry does not fit the word");
        }
        memory.remember(now.state);
        return now.fillEntry(e, w);
    }

    public int erase(int e) throws IndexOutOfBoundsException {
        requireEntry(e);
        memory.remember(now.state);
        return now.clearEntry(e);
    }

    public int undo() throws IllegalStateException {
        if (memory.actions == 0) {
            throw new IllegalStateException("no state is remembered");
        }
        now.take(memory.takeLast());
        return memory.actions;
    }

    // ---- what would be

    public int possible() {
        return search.count(now, true, MOST_POSSIBLE);
    }

    public int fillings() {
        return filler.count(now);
    }

    public int mend() {
        trial.take(now.state);
        int best = NONE;
        int mostKept = Rules.countKept(trial);
        int places = 2 * trial.state.cells();
        for (int place = 0; place < places; place++) {
            int c = place / 2;
            boolean below = place % 2 == 1;
            if (trial.state.isPlace(c, below)) {
                boolean is = trial.state.hasBar(c, below);
                trial.changeBar(c, below, !is);
                int kept = Rules.countKept(trial);
                trial.changeBar(c, below, is);
                if (kept > mostKept) {
                    mostKept = kept;
                    best = place;
                }
            }
        }
        return best;
    }

    public int hardest() {
        int best = NONE;
        int fewest = MOST_WORDS + 1;
        for (int e = 0; e < now.entryCount; e++) {
            if (now.emptyIn(e) > 0) {
                int fitting = now.fitCount(e);
                if (fitting < fewest) {
                    fewest = fitting;
                    best = e;
                }
            }
        }
        return best;
    }

    // ---- scripts, simulations

    public int runScript(int n, long script) throws IllegalArgumentException {
        if (n < 1 || n > 3 || script < 0 || withoutGroups(script, n) != 0) {
            throw new IllegalArgumentException("n or script is out of range");
        }
        trial.take(now.state);
        for (int k = 0; k < n; k++) {
            int group = (int) (withoutGroups(script, n - 1 - k) % GROUP);
            if (!Command.succeeds(trial, search, group)) {
                return k;
            }
        }
        return NONE;
    }

    public int simulate(long seed, int m) throws IllegalArgumentException {
        if (m < 1 || m > 99) {
            throw new IllegalArgumentException("m is out of range");
        }
        trial.take(now.state);
        long x = seed;
        for (int round = 0; round < m; round++) {
            x = x * 6364136223846793005L + 1442695040888963407L;
            simulateRound((int) (x >>> 33));
        }
        int found = search.count(trial, false, MOST_SIMULATED_READINGS);
        return 1000 * Rules.countKept(trial) + 10 * trial.entryCount + found;
    }

    // ---- save slots

    public int save(int slot) throws IndexOutOfBoundsException {
        requireSlot(slot);
        memory.store(slot, now.state);
        return now.entryCount;
    }

    public int restore(int slot) throws IndexOutOfBoundsException, IllegalStateException {
        requireSlot(slot);
        if (!memory.isStored(slot)) {
            throw new IllegalStateException("nothing has been saved in the slot");
        }
        now.take(memory.stored(slot));
        memory.forgetActions();
        return now.entryCount;
    }

    // ---- helpers of the face

    private void requireCell(int c) {
        if (!now.state.hasCell(c)) {
            throw new IndexOutOfBoundsException("no such cell");
        }
    }

    private void requireEntry(int e) {
        if (!now.hasEntry(e)) {
            throw new IndexOutOfBoundsException("no such entry");
        }
    }

    private void requireWord(int w) {
        if (!now.state.hasWord(w)) {
            throw new IndexOutOfBoundsException("no such word");
        }
    }

    private static void requireSlot(int slot) {
        if (slot < 0 || slot >= SLOTS) {
            throw new IndexOutOfBoundsException("no such save slot");
        }
    }

    private static boolean isLetter(int sign) {
        return sign >= 'a' && sign <= 'z';
    }

    /** Cuts groups of five digits off at the right. */
    private static long withoutGroups(long script, int groups) {
        long rest = script;
        for (int i = 0; i < groups; i++) {
            rest = rest / GROUP;
        }
        return rest;
    }

    private void simulateRound(int r) {
        int cells = trial.state.cells();
        if (cells < 1) {
            return;
        }
        if (r % 2 == 0) {
            int place = r / 2 % (2 * cells);
            int c = place / 2;
            boolean below = place % 2 == 1;
            trial.changeBar(c, below, !trial.state.hasBar(c, below));
        } else {
            trial.state.setLetter(r / 2 % cells, 'a' + r / 128 % 3);
        }
    }

    /** What an action can change and undo takes back: the cells, the bars, the words and the line. */
    private static final class State {
        int rows = 3;
        int columns = 3;
        int wordCount = 0;
        int lineLength = 0;
        // Bit c stands for the bar at cell c.
        private long rightBars = 0;
        private long belowBars = 0;
        private final int[] letters = new int[MOST_CELLS];
        private final int[] wordLengths = new int[MOST_WORDS];
        private final int[] wordLetters = new int[MOST_WORDS * MOST_LETTERS];
        private final int[] line = new int[MOST_LETTERS];

        void copyFrom(State other) {
            rows = other.rows;
            columns = other.columns;
            wordCount = other.wordCount;
            lineLength = other.lineLength;
            rightBars = other.rightBars;
            belowBars = other.belowBars;
            System.arraycopy(other.letters, 0, letters, 0, MOST_CELLS);
            System.arraycopy(other.wordLengths, 0, wordLengths, 0, MOST_WORDS);
            System.arraycopy(other.wordLetters, 0, wordLetters, 0, MOST_WORDS * MOST_LETTERS);
            System.arraycopy(other.line, 0, line, 0, MOST_LETTERS);
        }

        void begin(int newRows, int newColumns) {
            rows = newRows;
            columns = newColumns;
            wordCount = 0;
            lineLength = 0;
            rightBars = 0;
            belowBars = 0;
            Arrays.fill(letters, EMPTY);
        }

        int cells() {
            return rows * columns;
        }

        boolean hasCell(int c) {
            return c >= 0 && c < rows * columns && c < MOST_CELLS;
        }

        int columnOf(int c) {
            return columns > 0 ? c % columns : 0;
        }

        int rowOf(int c) {
            return columns > 0 ? c / columns : 0;
        }

        int letterAt(int c) {
            return hasCell(c) ? letters[c] : EMPTY;
        }

        void setLetter(int c, int letter) {
            if (hasCell(c)) {
                letters[c] = letter;
            }
        }

        int emptyCells() {
            int empty = 0;
            for (int c = 0; c < rows * columns; c++) {
                if (letterAt(c) == EMPTY) {
                    empty++;
                }
            }
            return empty;
        }

        /** Whether the place beside or below the cell lies between two cells, not at the rim. */
        boolean isPlace(int c, boolean below) {
            if (c < 0 || c >= rows * columns || columns < 1) {
                return false;
            }
            return below ? c + columns < rows * columns : c % columns < columns - 1;
        }

        boolean hasBar(int c, boolean below) {
            long bars = below ? belowBars : rightBars;
            return c >= 0 && c < MOST_CELLS && (bars >> c & 1) == 1;
        }

        void drawBar(int c, boolean below, boolean is) {
            if (!isPlace(c, below)) {
                return;
            }
            long bit = 1L << c;
            if (below) {
                belowBars = is ? belowBars | bit : belowBars & ~bit;
            } else {
                rightBars = is ? rightBars | bit : rightBars & ~bit;
            }
        }

        int barCount() {
            return Long.bitCount(rightBars) + Long.bitCount(belowBars);
        }

        /** Whether the cell has a neighbour to the right or below without a bar between them. */
        boolean isJoined(int c, boolean below) {
            return isPlace(c, below) && !hasBar(c, below);
        }

        boolean hasWord(int w) {
            return w >= 0 && w < wordCount && w < MOST_WORDS;
        }

        int lengthOfWord(int w) {
            return hasWord(w) ? wordLengths[w] : 0;
        }

        int letterOfWord(int w, int i) {
            if (i < 0 || i >= MOST_LETTERS || i >= lengthOfWord(w)) {
                return NONE;
            }
            return wordLetters[w * MOST_LETTERS + i];
        }

        void beginWord() {
            if (wordCount >= 0 && wordCount < MOST_WORDS) {
                wordLengths[wordCount] = 0;
                wordCount++;
            }
        }

        void lengthenWord(int letter) {
            int w = wordCount - 1;
            int i = lengthOfWord(w);
            if (hasWord(w) && i >= 0 && i < MOST_LETTERS) {
                wordLetters[w * MOST_LETTERS + i] = letter;
                wordLengths[w] = i + 1;
            }
        }

        int letterOfLine(int i) {
            return i >= 0 && i < lineLength && i < MOST_LETTERS ? line[i] : NONE;
        }

        void lengthenLine(int letter) {
            if (lineLength >= 0 && lineLength < MOST_LETTERS) {
                line[lineLength] = letter;
                lineLength++;
            }
        }
    }

    /** A state together with the entries that its bars make. */
    private static final class Puzzle {
        final State state = new State();
        int entryCount = 0;
        int acrossCount = 0;
        int greatestClue = 0;
        private final int[] firstCells = new int[MOST_CELLS];
        private final int[] lengths = new int[MOST_CELLS];
        private final boolean[] downward = new boolean[MOST_CELLS];
        private final int[] acrossOf = new int[MOST_CELLS];
        private final int[] downOf = new int[MOST_CELLS];
        private final int[] clueOf = new int[MOST_CELLS];

        Puzzle() {
            layOut();
        }

        void take(State other) {
            state.copyFrom(other);
            layOut();
        }

        /** Answers whether there is a place for a bar. */
        boolean changeBar(int c, boolean below, boolean is) {
            if (!state.isPlace(c, below)) {
                return false;
            }
            state.drawBar(c, below, is);
            layOut();
            return true;
        }

        private void layOut() {
            entryCount = 0;
            acrossCount = 0;
            greatestClue = 0;
            Arrays.fill(acrossOf, NONE);
            Arrays.fill(downOf, NONE);
            Arrays.fill(clueOf, NONE);
            for (int c = 0; c < state.cells() && c < MOST_CELLS; c++) {
                boolean across = state.isJoined(c, false) && !state.isJoined(c - 1, false);
                boolean down = state.isJoined(c, true) && !state.isJoined(c - state.columns, true);
                if (across) {
                    addEntry(c, false);
                    acrossCount++;
                }
                if (down) {
                    addEntry(c, true);
                }
                if (across || down) {
                    greatestClue++;
                    clueOf[c] = greatestClue;
                }
            }
        }

        private void addEntry(int first, boolean down) {
            int e = entryCount;
            if (e < 0 || e >= MOST_CELLS) {
                return;
            }
            int[] entryOf = down ? downOf : acrossOf;
            int step = down ? state.columns : 1;
            int c = first;
            int length = 0;
            boolean goesOn = true;
            while (goesOn && length < MOST_LETTERS && state.hasCell(c)) {
                entryOf[c] = e;
                length++;
                goesOn = state.isJoined(c, down);
                c += step;
            }
            firstCells[e] = first;
            lengths[e] = length;
            downward[e] = down;
            entryCount++;
        }

        boolean hasEntry(int e) {
            return e >= 0 && e < entryCount && e < MOST_CELLS;
        }

        boolean isDown(int e) {
            return hasEntry(e) && downward[e];
        }

        int lengthOf(int e) {
            return hasEntry(e) ? lengths[e] : 0;
        }

        int cellOf(int e, int i) {
            if (!hasEntry(e)) {
                return NONE;
            }
            return firstCells[e] + i * (downward[e] ? state.columns : 1);
        }

        /** Which cell of an entry a cell of it is. */
        int indexIn(int e, int c) {
            if (!hasEntry(e)) {
                return NONE;
            }
            return downward[e] ? state.rowOf(c) - state.rowOf(firstCells[e]) : c - firstCells[e];
        }

        int entryAt(int c, boolean down) {
            if (!state.hasCell(c)) {
                return NONE;
            }
            return down ? downOf[c] : acrossOf[c];
        }

        int clueAt(int c) {
            return state.hasCell(c) ? clueOf[c] : NONE;
        }

        int entriesAt(int c) {
            if (!state.hasCell(c)) {
                return 0;
            }
            return (acrossOf[c] == NONE ? 0 : 1) + (downOf[c] == NONE ? 0 : 1);
        }

        int cellsInEntries(int entries) {
            int cells = 0;
            for (int c = 0; c < state.cells(); c++) {
                if (entriesAt(c) == entries) {
                    cells++;
                }
            }
            return cells;
        }

        int uncheckedIn(int e) {
            int unchecked = 0;
            for (int i = 0; i < lengthOf(e); i++) {
                if (entriesAt(cellOf(e, i)) == 1) {
                    unchecked++;
                }
            }
            return unchecked;
        }

        int emptyIn(int e) {
            int empty = 0;
            for (int i = 0; i < lengthOf(e); i++) {
                if (state.letterAt(cellOf(e, i)) == EMPTY) {
                    empty++;
                }
            }
            return empty;
        }

        boolean fitsWord(int e, int w) {
            if (!hasEntry(e) || !state.hasWord(w) || lengthOf(e) != state.lengthOfWord(w)) {
                return false;
            }
            for (int i = 0; i < lengthOf(e); i++) {
                int letter = state.letterAt(cellOf(e, i));
                if (letter != EMPTY && letter != state.letterOfWord(w, i)) {
                    return false;
                }
            }
            return true;
        }

        int fitCount(int e) {
            int count = 0;
            for (int w = 0; w < state.wordCount; w++) {
                if (fitsWord(e, w)) {
                    count++;
                }
            }
            return count;
        }

        /** The first word that the letters of an entry are. */
        int wordIn(int e) {
            if (emptyIn(e) > 0) {
                return NONE;
            }
            for (int w = 0; w < state.wordCount; w++) {
                if (fitsWord(e, w)) {
                    return w;
                }
            }
            return NONE;
        }

        int fillEntry(int e, int w) {
            int empty = emptyIn(e);
            for (int i = 0; i < lengthOf(e); i++) {
                state.setLetter(cellOf(e, i), state.letterOfWord(w, i));
            }
            return empty;
        }

        int clearEntry(int e) {
            int gone = 0;
            for (int i = 0; i < lengthOf(e); i++) {
                int c = cellOf(e, i);
                int crossing = entryAt(c, !isDown(e));
                boolean stays = hasEntry(crossing) && emptyIn(crossing) == 0;
                if (!stays && state.letterAt(c) != EMPTY) {
                    state.setLetter(c, EMPTY);
                    gone++;
                }
            }
            return gone;
        }
    }

    /** The five rules for the bars. */
    private static final class Rules {
        static int countKept(Puzzle puzzle) {
            int kept = 0;
            for (int k = 0; k < RULES; k++) {
                if (areKept(puzzle, k)) {
                    kept++;
                }
            }
            return kept;
        }

        static boolean areKept(Puzzle puzzle, int k) {
            switch (k) {
                case 0: return isSameTurned(puzzle.state);
                case 1: return puzzle.cellsInEntries(0) == 0;
                case 2: return isCheckedEnough(puzzle);
                case 3: return hasNoUncheckedPair(puzzle);
                case 4: return isConnected(puzzle.state);
                default: return false;
            }
        }

        private static boolean isSameTurned(State state) {
            int last = state.cells() - 1;
            for (int c = 0; c <= last; c++) {
                if (state.hasBar(c, false) && !state.hasBar(last - (c + 1), false)) {
                    return false;
                }
                if (state.hasBar(c, true) && !state.hasBar(last - (c + state.columns), true)) {
                    return false;
                }
            }
            return true;
        }

        private static boolean isCheckedEnough(Puzzle puzzle) {
            for (int e = 0; e < puzzle.entryCount; e++) {
                if (2 * puzzle.uncheckedIn(e) > puzzle.lengthOf(e)) {
                    return false;
                }
            }
            return true;
        }

        private static boolean hasNoUncheckedPair(Puzzle puzzle) {
            for (int e = 0; e < puzzle.entryCount; e++) {
                for (int i = 1; i < puzzle.lengthOf(e); i++) {
                    if (puzzle.entriesAt(puzzle.cellOf(e, i - 1)) == 1
                            && puzzle.entriesAt(puzzle.cellOf(e, i)) == 1) {
                        return false;
                    }
                }
            }
            return true;
        }

        private static boolean isConnected(State state) {
            int cells = state.cells();
            long reached = 1;
            for (int round = 0; round < cells; round++) {
                long before = reached;
                for (int c = 0; c < cells; c++) {
                    reached = spread(state, reached, c, false);
                    reached = spread(state, reached, c, true);
                }
                if (reached == before) {
                    break;
                }
            }
            return Long.bitCount(reached) == cells;
        }

        private static long spread(State state, long reached, int c, boolean below) {
            if (!state.isJoined(c, below)) {
                return reached;
            }
            int neighbour = c + (below ? state.columns : 1);
            long pair = (1L << c) | (1L << neighbour);
            return (reached & pair) != 0 ? reached | pair : reached;
        }
    }

    /** Finds the readings of the line, and the possible ones. */
    private static final class LineSearch {
        private boolean emptyToo = false;
        private int limit = 0;
        private int found = 0;
        private int firstLength = 0;
        // Bit c stands for cell c on the path.
        private long used = 0;
        private final int[] path = new int[MOST_LETTERS];
        private final int[] firstPath = new int[MOST_LETTERS];

        /** Counts readings, or the possible ones, but stops at the limit. */
        int count(Puzzle puzzle, boolean withEmpty, int upTo) {
            emptyToo = withEmpty;
            limit = upTo;
            found = 0;
            firstLength = 0;
            used = 0;
            for (int c = 0; c < puzzle.state.cells(); c++) {
                visit(puzzle, 0, c);
            }
            return found;
        }

        /** A cell of the first reading that the last count found. */
        int cellOfFirst(int i) {
            return i >= 0 && i < firstLength && i < MOST_LETTERS ? firstPath[i] : NONE;
        }

        private void visit(Puzzle puzzle, int depth, int c) {
            State state = puzzle.state;
            if (found >= limit || depth < 0 || depth >= state.lineLength || depth >= MOST_LETTERS
                    || !isAllowed(puzzle, depth, c)) {
                return;
            }
            path[depth] = c;
            if (depth == state.lineLength - 1) {
                keepPath(depth + 1);
                return;
            }
            used |= 1L << c;
            visitBehind(puzzle, depth, c);
            used &= ~(1L << c);
        }

        private void visitBehind(Puzzle puzzle, int depth, int c) {
            State state = puzzle.state;
            for (int k = 0; k < STEP_ROWS.length && k < STEP_COLUMNS.length; k++) {
                int row = state.rowOf(c) + STEP_ROWS[k];
                int column = state.columnOf(c) + STEP_COLUMNS[k];
                if (row >= 0 && row < state.rows && column >= 0 && column < state.columns) {
                    visit(puzzle, depth + 1, row * state.columns + column);
                }
            }
        }

        private boolean isAllowed(Puzzle puzzle, int depth, int c) {
            if ((used >> c & 1) == 1 || puzzle.entriesAt(c) != 1) {
                return false;
            }
            int letter = puzzle.state.letterAt(c);
            return letter == EMPTY ? emptyToo : letter == puzzle.state.letterOfLine(depth);
        }

        private void keepPath(int length) {
            if (found == 0) {
                System.arraycopy(path, 0, firstPath, 0, MOST_LETTERS);
                firstLength = length;
            }
            found++;
        }
    }

    /** Counts the ways in which all entries can be given different words. */
    private static final class Filler {
        private int ways = 0;
        // Bit w stands for word w.
        private int used = 0;
        private final int[] fitting = new int[MOST_WORDS];
        private final int[] given = new int[MOST_WORDS];

        int count(Puzzle puzzle) {
            ways = 0;
            used = 0;
            if (puzzle.entryCount > puzzle.state.wordCount) {
                return 0;
            }
            for (int e = 0; e < puzzle.entryCount && e < MOST_WORDS; e++) {
                fitting[e] = wordsThatFit(puzzle, e);
            }
            giveFrom(puzzle, 0);
            return ways;
        }

        private static int wordsThatFit(Puzzle puzzle, int e) {
            int words = 0;
            for (int w = 0; w < puzzle.state.wordCount; w++) {
                if (puzzle.fitsWord(e, w)) {
                    words |= 1 << w;
                }
            }
            return words;
        }

        private void giveFrom(Puzzle puzzle, int e) {
            if (e >= puzzle.entryCount) {
                ways++;
                return;
            }
            if (e < 0 || e >= MOST_WORDS) {
                return;
            }
            for (int w = 0; w < puzzle.state.wordCount; w++) {
                boolean free = ((fitting[e] & ~used) >> w & 1) == 1;
                if (free && agrees(puzzle, e, w)) {
                    give(puzzle, e, w);
                }
            }
        }

        private void give(Puzzle puzzle, int e, int w) {
            if (e < 0 || e >= MOST_WORDS) {
                return;
            }
            given[e] = w;
            used |= 1 << w;
            giveFrom(puzzle, e + 1);
            used &= ~(1 << w);
        }

        /** Whether the word gives the cells the letters that earlier entries give them. */
        private boolean agrees(Puzzle puzzle, int e, int w) {
            for (int i = 0; i < puzzle.lengthOf(e); i++) {
                int c = puzzle.cellOf(e, i);
                int other = puzzle.entryAt(c, !puzzle.isDown(e));
                if (other >= 0 && other < e && other < MOST_WORDS) {
                    int otherLetter = puzzle.state.letterOfWord(given[other], puzzle.indexIn(other, c));
                    if (otherLetter != puzzle.state.letterOfWord(w, i)) {
                        return false;
                    }
                }
            }
            return true;
        }
    }

    /** The commands of a script, which are groups of five digits. */
    private static final class Command {
        static boolean succeeds(Puzzle puzzle, LineSearch search, int group) {
            int d2 = group / 1000 % 10;
            int d3 = group / 100 % 10;
            int d4 = group / 10 % 10;
            int d5 = group % 10;
            int front = 10 * d2 + d3;
            int back = 10 * d4 + d5;
            int least = 100 * d3 + back;
            switch (group / 10000) {
                case 1: return putsLetter(puzzle, front, back);
                case 2: return d4 <= 1 && d5 <= 1 && puzzle.changeBar(front, d4 == 1, d5 == 1);
                case 3: return d5 == 0 && fillsEntry(puzzle, front, d4);
                case 4: return back == 0 && clearsEntry(puzzle, front);
                case 5: return d3 == 0 && back == 0 && Rules.areKept(puzzle, d2);
                case 6: return d2 == 0 && search.count(puzzle, false, least) >= least;
                case 7: return d4 == 0 && puzzle.hasEntry(front) && puzzle.fitCount(front) >= d5;
                case 8: return d4 == 0 && puzzle.state.hasCell(front) && puzzle.entriesAt(front) == d5;
                case 9: return front == 0 && puzzle.entryCount == back;
                default: return false;
            }
        }

        private static boolean putsLetter(Puzzle puzzle, int c, int number) {
            int letter = number == 99 ? EMPTY : 'a' + number;
            if (!puzzle.state.hasCell(c) || letter != EMPTY && !isLetter(letter)) {
                return false;
            }
            puzzle.state.setLetter(c, letter);
            return true;
        }

        private static boolean fillsEntry(Puzzle puzzle, int e, int w) {
            if (!puzzle.fitsWord(e, w)) {
                return false;
            }
            puzzle.fillEntry(e, w);
            return true;
        }

        private static boolean clearsEntry(Puzzle puzzle, int e) {
            if (!puzzle.hasEntry(e)) {
                return false;
            }
            puzzle.clearEntry(e);
            return true;
        }
    }

    /** The remembered states, of which the oldest one gives way, and the save slots. */
    private static final class Memory {
        int actions = 0;
        private int oldest = 0;
        private final State[] remembered = new State[MOST_REMEMBERED];
        private final State[] slots = new State[SLOTS];
        private final boolean[] isUsed = new boolean[SLOTS];

        Memory() {
            for (int i = 0; i < MOST_REMEMBERED; i++) {
                remembered[i] = new State();
            }
            for (int i = 0; i < SLOTS; i++) {
                slots[i] = new State();
            }
        }

        void remember(State state) {
            if (actions == MOST_REMEMBERED) {
                oldest = (oldest + 1) % MOST_REMEMBERED;
                actions--;
            }
            at(actions).copyFrom(state);
            actions++;
        }

        /** Forgets the newest remembered state, and answers it. */
        State takeLast() {
            if (actions > 0) {
                actions--;
            }
            return at(actions);
        }

        void forgetActions() {
            actions = 0;
        }

        private State at(int i) {
            return remembered[Math.floorMod(oldest + i, MOST_REMEMBERED)];
        }

        void store(int slot, State state) {
            if (slot >= 0 && slot < SLOTS) {
                slots[slot].copyFrom(state);
                isUsed[slot] = true;
            }
        }

        boolean isStored(int slot) {
            return slot >= 0 && slot < SLOTS && isUsed[slot];
        }

        State stored(int slot) {
            return slot >= 0 && slot < SLOTS ? slots[slot] : slots[0];
        }

        void emptySlots() {
            for (int slot = 0; slot < SLOTS; slot++) {
                isUsed[slot] = false;
            }
        }
    }

    /** The text, and what is read from it. */
    private static final class TextBuffer {
        int length = 0;
        final State grid = new State();
        private int position = 0;
        private final int[] signs = new int[MOST_TEXT];

        boolean isFull() {
            return length >= MOST_TEXT;
        }

        int add(int sign) {
            if (length >= 0 && length < MOST_TEXT) {
                signs[length] = sign;
                length++;
            }
            return length;
        }

        int empty() {
            int previous = length;
            length = 0;
            return previous;
        }

        int signAt(int i) {
            return i >= 0 && i < length && i < MOST_TEXT ? signs[i] : END_OF_TEXT;
        }

        /** Whether the whole text is letters, of the least number up to 6. */
        boolean isWord(int least) {
            if (length < least || length > MOST_LETTERS) {
                return false;
            }
            for (int i = 0; i < length; i++) {
                if (!isLetter(signAt(i))) {
                    return false;
                }
            }
            return true;
        }

        /** Reads the text into the grid, and answers the error position or NONE. */
        int readGrid() {
            position = 0;
            return goesPast('G') && readSize() && readCells() && readParts() ? NONE : position;
        }

        private boolean goesPast(int sign) {
            if (signAt(position) != sign) {
                return false;
            }
            position++;
            return true;
        }

        private boolean readSize() {
            int rows = signAt(position) - '0';
            if (rows < 2 || rows > 6) {
                return false;
            }
            position++;
            int columns = signAt(position) - '0';
            if (columns < 2 || columns > 6) {
                return false;
            }
            position++;
            grid.begin(rows, columns);
            return true;
        }

        private boolean readCells() {
            for (int c = 0; c < grid.cells(); c++) {
                int sign = signAt(position);
                if (sign != '.' && !isLetter(sign)) {
                    return false;
                }
                position++;
                grid.setLetter(c, sign == '.' ? EMPTY : sign);
                readBar(c, false, '|');
                readBar(c, true, '_');
            }
            return true;
        }

        private void readBar(int c, boolean below, int sign) {
            if (grid.isPlace(c, below) && goesPast(sign)) {
                grid.drawBar(c, below, true);
            }
        }

        private boolean readParts() {
            // One round more than parts can be, which finds the end of the text or what is too much.
            for (int part = 0; part <= MOST_WORDS + 1; part++) {
                if (position >= length) {
                    return true;
                }
                boolean isRead = false;
                if (grid.wordCount < MOST_WORDS && goesPast('/')) {
                    isRead = readWord();
                } else if (grid.lineLength == 0 && goesPast('=')) {
                    isRead = readLine();
                }
                if (!isRead) {
                    return false;
                }
            }
            return false;
        }

        private boolean readWord() {
            grid.beginWord();
            int count = 0;
            while (count < MOST_LETTERS && isLetter(signAt(position))) {
                grid.lengthenWord(signAt(position));
                position++;
                count++;
            }
            return count >= 2;
        }

        private boolean readLine() {
            int count = 0;
            while (count < MOST_LETTERS && isLetter(signAt(position))) {
                grid.lengthenLine(signAt(position));
                position++;
                count++;
            }
            return count >= 1;
        }
    }
}
