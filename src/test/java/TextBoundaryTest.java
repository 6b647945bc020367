/** The boundary cases of the section "TEXT" and of the promises 2 to 5, sentence by sentence. */
public final class TextBoundaryTest {
    private static final int NONE = -9;
    private static final String LETTERS = "abcdefghijklmnopqrstuvwxyz";

    /** A grid with all its bars, 8 words and a line, which leaves one character. */
    private static final String NEARLY_FULL = Make.grid(6, 6, ".", c -> true, c -> true)
        + "/abcdef/abcdef/abcdef/abcdef/abcdef/abcdef=abcdef";

    public static void main(String[] args) {
        appendOutOfRange();
        appendToFull();
        appendBoth();
        appendAllCodes();
        appendUpToFull();
        clearEmpty();
        clearFull();
        clearKeepsAllElse();
        errorsAtEachPlace();
        sizesOfTheGrid();
        barsOnlyInside();
        barsInTheirOrder();
        allBars();
        endsTooSoon();
        mayEnd();
        lettersOfAWord();
        lettersOfTheLine();
        wordsAtMost();
        lineAtMostOnce();
        partsInAnyOrder();
        noBlanks();
        firstErrorCounts();
        fullTexts();
        errorPositionChangesNothing();
        loadOfNoGrid();
        loadReplacesEverything();
        loadForgetsStates();
        loadEmptiesSlots();
        loadKeepsText();
        loadCells();
        loadIsNoAction();
        Check.end();
    }

    // ---- promise 2

    // "c: character code, 0 to 255 - Throws IllegalArgumentException if c is out of range"
    private static void appendOutOfRange() {
        for (int c : new int[] {-1, 256, 257, -256, 65536 + 'a', 256 + 'a', Integer.MAX_VALUE, Integer.MIN_VALUE}) {
            Check.refused("append " + c, Check.ARGUMENT, BarredGrid::new, x -> x.append(c));
            Check.refused("append " + c + " to ab", Check.ARGUMENT, () -> Make.busy("ab"), x -> x.append(c));
            Check.refused("append " + c + " to a grid", Check.ARGUMENT, () -> Make.busy("G22...."), x -> x.append(c));
        }
        Check.due("append 0", 1, new BarredGrid().append(0));
        Check.due("append 255", 1, new BarredGrid().append(255));
    }

    // "Throws IllegalStateException if the text already has 150 characters"
    private static void appendToFull() {
        for (int c : new int[] {0, 'a', '/', 255}) {
            Check.refused("append to 150", Check.STATE, () -> Make.typed("a".repeat(150)), x -> x.append(c));
            Check.refused("append to a full grid", Check.STATE, () -> Make.typed(NEARLY_FULL + "/a"), x -> x.append(c));
            Check.refused("append to a full text", Check.STATE, () -> Make.busy("a".repeat(150)), x -> x.append(c));
        }
    }

    // "If several exceptions apply to a call, the one that its description names first is thrown."
    private static void appendBoth() {
        for (int c : new int[] {-1, 256, Integer.MAX_VALUE, Integer.MIN_VALUE}) {
            Check.refused("append " + c + " to 150", Check.ARGUMENT, () -> Make.typed("a".repeat(150)), x -> x.append(c));
        }
    }

    // Each character is itself, so that those above 127 are no letters.
    private static void appendAllCodes() {
        for (int c = 0; c <= 255; c++) {
            BarredGrid x = new BarredGrid();
            Check.due("append " + c, 1, x.append(c));
            Check.due("error position of the character " + c, c == 'G' ? 1 : 0, x.errorPosition());
            BarredGrid line = new BarredGrid();
            line.append(c);
            if (c >= 'a' && c <= 'z') {
                Check.due("setLine " + c, 1, line.setLine());
            } else {
                Check.throwsIt("setLine " + c, Check.STATE, line::setLine);
            }
        }
    }

    // "Returns the new length of the text."
    private static void appendUpToFull() {
        BarredGrid x = new BarredGrid();
        for (int round = 0; round < 2; round++) {
            for (int length = 1; length <= 150; length++) {
                Check.due("append", length, x.append(255));
            }
            Check.throwsIt("one more", Check.STATE, () -> x.append(255));
            Check.due("clearText", 150, x.clearText());
        }
    }

    // ---- promise 3

    // "Returns the previous length of the text."
    private static void clearEmpty() {
        BarredGrid x = new BarredGrid();
        Check.due("clear a new one", 0, x.clearText());
        Check.due("clear it again", 0, x.clearText());
        Check.due("append", 1, x.append('a'));
        Check.due("clear one", 1, x.clearText());
        Check.due("clear none", 0, x.clearText());
        Check.changesNothing("clear an empty text", () -> Make.busy(""), BarredGrid::clearText);
    }

    private static void clearFull() {
        BarredGrid x = Make.typed("G" + "a".repeat(149));
        Check.due("clear a full one", 150, x.clearText());
        Check.due("nothing is left", 0, x.errorPosition());
        Make.type(x, "ab");
        Check.due("what stood behind is gone", 0, x.addWord());
        Check.due("its letters", NONE, x.word(0, 2));
    }

    private static void clearKeepsAllElse() {
        BarredGrid x = Make.busy("G22....");
        BarredGrid y = Make.busy("G22....");
        y.clearText();
        Check.due("the state after clearText", true, Watch.state(x).equals(Watch.state(y)));
        Check.due("the states are remembered", 13, y.undo());
        Check.due("the slots are kept", 7, y.restore(0));
    }

    // ---- promise 4

    // "The error position is the index of the first character that these rules do not allow at its place"
    private static void errorsAtEachPlace() {
        String dot = LETTERS + ".";
        allowedBehind("", "G");
        allowedBehind("G", "23456");
        allowedBehind("G2", "23456");
        allowedBehind("G23", dot);
        allowedBehind("G23a", dot + "|_");
        allowedBehind("G23a|", dot + "_");
        allowedBehind("G23a|_", dot);
        allowedBehind("G23a|_b", dot + "|_");
        allowedBehind("G23a|_b_", dot);
        allowedBehind("G23a|_b_.", dot + "_");
        allowedBehind("G23a|_b_._", dot);
        allowedBehind("G23a|_b_._.", dot + "|");
        allowedBehind("G23a|_b_._.|", dot);
        allowedBehind("G23a|_b_._.|c", dot + "|");
        String grid = "G23a|_b_._.|cz";
        allowedBehind(grid, "/=");
        allowedBehind(grid + "/", LETTERS);
        allowedBehind(grid + "/a", LETTERS);
        allowedBehind(grid + "/ab", LETTERS + "/=");
        allowedBehind(grid + "/abcde", LETTERS + "/=");
        allowedBehind(grid + "/abcdef", "/=");
        allowedBehind(grid + "=", LETTERS);
        allowedBehind(grid + "=z", LETTERS + "/");
        allowedBehind(grid + "=zyxwv", LETTERS + "/");
        allowedBehind(grid + "=zyxwvu", "/");
        allowedBehind(grid + "=zyxwvu/ab", LETTERS + "/");
        allowedBehind(grid + "/ab=z", LETTERS + "/");
        String words = grid + "/ab".repeat(8);
        allowedBehind(words, LETTERS + "=");
        allowedBehind(words + "cdef", "=");
        allowedBehind(words + "=z", LETTERS);
        allowedBehind(words + "=zyxwvu", "");
        allowedBehind(grid + "=z" + "/ab".repeat(8), LETTERS);
        allowedBehind(grid + "=z" + "/ab".repeat(8) + "cdef", "");
    }

    /** An allowed character is never the error position, any other one always is. */
    private static void allowedBehind(String signs, String allowed) {
        int at = signs.length();
        for (int c = 0; c <= 255; c++) {
            BarredGrid x = Make.typed(signs + (char) c);
            int found = x.errorPosition();
            if (allowed.indexOf(c) >= 0) {
                Check.due(signs + (char) c + " allows its end", true, found == NONE || found == at + 1);
            } else {
                Check.due(signs + ", then " + c, at, found);
            }
        }
    }

    // "a digit from 2 to 6 for the rows, a digit from 2 to 6 for the columns"
    private static void sizesOfTheGrid() {
        for (int rows = 0; rows <= 9; rows++) {
            for (int columns = 0; columns <= 9; columns++) {
                boolean right = rows >= 2 && rows <= 6;
                int want = !right ? 1 : columns < 2 || columns > 6 ? 2 : NONE;
                String signs = Make.open(rows, columns, "m");
                Check.due(signs, want, Make.typed(signs).errorPosition());
                if (want == NONE) {
                    Check.due("less a cell", signs.length() - 1,
                        Make.typed(signs.substring(0, signs.length() - 1)).errorPosition());
                    Check.due("a cell more", signs.length(), Make.typed(signs + "m").errorPosition());
                }
            }
        }
    }

    // "a | if there is a bar to the right of it (not in the last column), and then a _ (not in the last row)"
    private static void barsOnlyInside() {
        for (int rows = 2; rows <= 6; rows++) {
            for (int columns = 2; columns <= 6; columns++) {
                String open = Make.open(rows, columns, ".");
                for (int c = 0; c < rows * columns; c++) {
                    int at = 4 + c;
                    String right = open.substring(0, at) + "|" + open.substring(at);
                    String below = open.substring(0, at) + "_" + open.substring(at);
                    Check.due(right, c % columns < columns - 1 ? NONE : at, Make.typed(right).errorPosition());
                    Check.due(below, c / columns < rows - 1 ? NONE : at, Make.typed(below).errorPosition());
                }
            }
        }
    }

    private static void barsInTheirOrder() {
        Check.due("first right, then below", NONE, Make.typed("G22.|_...").errorPosition());
        Check.due("first below, then right", 5, Make.typed("G22._|...").errorPosition());
        Check.due("right twice", 5, Make.typed("G22.||...").errorPosition());
        Check.due("below twice", 5, Make.typed("G22.__...").errorPosition());
        Check.due("before the cell", 3, Make.typed("G22|....").errorPosition());
        BarredGrid x = Make.loaded("G22.|_...");
        Check.due("the bar to the right", 1, x.cell(0, 1));
        Check.due("the bar below", 1, x.cell(0, 2));
        Check.due("no other bars", 2, x.about(7));
    }

    private static void allBars() {
        String most = Make.grid(6, 6, "z", c -> true, c -> true);
        Check.due("most characters of a grid alone", 99, most.length());
        Check.due("it is a grid", NONE, Make.typed(most).errorPosition());
        Check.due("its bars", 60, Make.loaded(most).about(7));
    }

    // "if the text ends too soon, it is the length of the text"
    private static void endsTooSoon() {
        String signs = "G23a|_b_._.|cz/abcdef=abcdef/ab";
        for (int length = 0; length <= signs.length(); length++) {
            boolean mayEnd = length == 14 || length >= 17 && length <= 21 || length >= 23 && length <= 28 || length == 31;
            String start = signs.substring(0, length);
            Check.due(start, mayEnd ? NONE : length, Make.typed(start).errorPosition());
        }
    }

    // "a text may end behind the last cell, behind the second or a later letter of a word, and behind any letter of the line"
    private static void mayEnd() {
        String[] good = {"G22....", "G22..../ab", "G22..../abc", "G22..../abcd", "G22..../abcde", "G22..../abcdef",
            "G22....=a", "G22....=ab", "G22....=abc", "G22....=abcd", "G22....=abcde", "G22....=abcdef"};
        for (String signs : good) {
            Check.due(signs, NONE, Make.typed(signs).errorPosition());
        }
        String[] bad = {"", "G", "G2", "G22", "G22.", "G22.|", "G22.|_", "G22..", "G22.._", "G22...", "G22...|",
            "G22..../", "G22..../a", "G22....=", "G22..../ab/", "G22..../ab/a", "G22..../ab=", "G22....=a/", "G22....=a/a"};
        for (String signs : bad) {
            Check.due(signs, signs.length(), Make.typed(signs).errorPosition());
        }
    }

    // "a / and 2 to 6 letters from a to z for a word"
    private static void lettersOfAWord() {
        for (int length = 0; length <= 8; length++) {
            String word = "azazazaz".substring(0, length);
            int want = length < 2 ? 8 + length : length > 6 ? 14 : NONE;
            Check.due("word of " + length, want, Make.typed("G22..../" + word).errorPosition());
            int before = length < 2 || length > 6 ? want : NONE;
            Check.due("word of " + length + " and one more", before, Make.typed("G22..../" + word + "/ab").errorPosition());
            Check.due("word of " + length + " and a line", before, Make.typed("G22..../" + word + "=a").errorPosition());
        }
    }

    // "a = and 1 to 6 letters from a to z for the line"
    private static void lettersOfTheLine() {
        for (int length = 0; length <= 8; length++) {
            String line = "azazazaz".substring(0, length);
            int want = length < 1 ? 8 : length > 6 ? 14 : NONE;
            Check.due("line of " + length, want, Make.typed("G22....=" + line).errorPosition());
            Check.due("line of " + length + " and a word", want, Make.typed("G22....=" + line + "/ab").errorPosition());
        }
    }

    // "(at most 8 words)"
    private static void wordsAtMost() {
        for (int words = 0; words <= 10; words++) {
            Check.due("words: " + words, words <= 8 ? NONE : 31, Make.typed("G22...." + "/ab".repeat(words)).errorPosition());
            Check.due("line, words: " + words, words <= 8 ? NONE : 33,
                Make.typed("G22....=a" + "/ab".repeat(words)).errorPosition());
        }
        Check.due("8 words, the line last", NONE, Make.typed("G22...." + "/ab".repeat(8) + "=a").errorPosition());
        Check.due("a ninth behind the line", 33, Make.typed("G22...." + "/ab".repeat(8) + "=a/ab").errorPosition());
        Check.due("8 words are loaded", 8, Make.loaded("G22...." + "/ab".repeat(8)).about(8));
    }

    // "(at most once)"
    private static void lineAtMostOnce() {
        Check.due("at once", 9, Make.typed("G22....=a=a").errorPosition());
        Check.due("behind a word", 12, Make.typed("G22....=a/ab=a").errorPosition());
        Check.due("behind six letters", 14, Make.typed("G22....=abcdef=a").errorPosition());
        Check.due("an empty one", 8, Make.typed("G22....==a").errorPosition());
    }

    // "Then follow any number of parts, in any order"
    private static void partsInAnyOrder() {
        Check.due("no parts", 0, Make.loaded("G22....").about(8));
        for (int words = 0; words <= 8; words++) {
            for (int before = 0; before <= words; before++) {
                String signs = "G22...." + "/ab".repeat(before) + "=xyz" + "/ab".repeat(words - before);
                Check.due(signs, NONE, Make.typed(signs).errorPosition());
                BarredGrid x = Make.loaded(signs);
                Check.due("words of " + signs, words, x.about(8));
                Check.due("line of " + signs, 3, x.about(9));
            }
        }
    }

    // "There are no blanks."
    private static void noBlanks() {
        String signs = "G22a|_.../ab=c";
        for (int at = 0; at <= signs.length(); at++) {
            String blank = signs.substring(0, at) + " " + signs.substring(at);
            Check.due(blank, at, Make.typed(blank).errorPosition());
        }
    }

    // "The text is read from left to right."
    private static void firstErrorCounts() {
        Check.due("many errors", 4, Make.typed("G22.!!!!??").errorPosition());
        Check.due("an error, then the end", 2, Make.typed("G29").errorPosition());
        Check.due("G alone counts at the first place", 0, Make.typed("xG22....").errorPosition());
        Check.due("what follows does not mend it", 7, Make.typed("G22.....G22....").errorPosition());
    }

    // "The object has a text buffer of at most 150 characters."
    private static void fullTexts() {
        String word = NEARLY_FULL + "/a";
        Check.due("its length", 150, word.length());
        Check.due("no room for the second letter", 150, Make.typed(word).errorPosition());
        String full = NEARLY_FULL.replace("/abcdef=", "/abcde/ab=").substring(0, 150);
        Check.due("a full grid", 150, full.length());
        Check.due("its error position", NONE, Make.typed(full).errorPosition());
        BarredGrid x = Make.loaded(full);
        Check.due("its words", 7, x.about(8));
        Check.due("its bars", 60, x.about(7));
        Check.due("its line", 6, x.about(9));
        Check.due("its last word", 'b', x.word(6, 1));
        Check.due("150 of G", 1, Make.typed("G".repeat(150)).errorPosition());
        Check.due("an error at the last place", 149, Make.typed(full.substring(0, 149) + "=").errorPosition());
        Check.due("ends too soon at 149", 149, Make.typed(NEARLY_FULL + "/").errorPosition());
    }

    private static void errorPositionChangesNothing() {
        // Nor does what it has read of one text, or of the beginning of one, come into the next.
        for (String signs : new String[] {NEARLY_FULL, NEARLY_FULL + "/", "G22z|_z_z|z/zz/zz/zz/zz/zz/zz/zz/zz=zzzzzz=", "G22z|_z_"}) {
            BarredGrid x = Make.typed(signs);
            int first = x.errorPosition();
            Check.due("errorPosition again", first, x.errorPosition());
            Make.type(x, "G22a.../ab=c");
            Check.due("errorPosition of the next", NONE, x.errorPosition());
            Check.due("load of the next", 4, x.load());
            Check.due("its state", true, Watch.state(x).equals(Watch.state(Make.loaded("G22a.../ab=c"))));
        }
        for (String signs : new String[] {"", "G", "G22....", "G22.|_./ab", "G66" + ".".repeat(36) + "/ab=c", "ab"}) {
            Check.changesNothing("errorPosition of " + signs, () -> Make.busy(signs), BarredGrid::errorPosition);
        }
    }

    // ---- promise 5

    // "Throws IllegalStateException if the text is not a grid"
    private static void loadOfNoGrid() {
        String[] bad = {"", "G", "G12..", "G21..", "G72..", "G22...", "G22.....", "G22..../a", "G22....=", "G22....|", "ab",
            "G22abcd/abcdefg", "G22abcd=abcdefg", "G22abcd" + "/ab".repeat(9), "G22abcd=a=b", NEARLY_FULL + "/a"};
        for (String signs : bad) {
            Check.refused("load " + signs, Check.STATE, () -> Make.busy(signs), BarredGrid::load);
            Check.refused("load into a new one " + signs, Check.STATE, () -> Make.typed(signs), BarredGrid::load);
        }
    }

    // "Replaces everything by the grid, the words and the line of the text (none of those that it does not tell)."
    private static void loadReplacesEverything() {
        String large = "G66" + "abcdef".repeat(6) + "/abcdef/bcdefg/cdefgh=abcdef";
        String[] texts = {"G22....", "G22....=a", "G22..../ab", Make.WALLS, "G26............", "G33abcdefghi/ab=z"};
        for (String signs : texts) {
            BarredGrid x = Make.loaded(large);
            Make.type(x, signs);
            x.load();
            Check.due("load " + signs + " over a large one", true, Watch.state(x).equals(Watch.state(Make.loaded(signs))));
        }
        for (String signs : texts) {
            BarredGrid x = Make.loaded(NEARLY_FULL);
            Make.type(x, signs);
            x.load();
            Check.due("load " + signs + " over all bars", true, Watch.state(x).equals(Watch.state(Make.loaded(signs))));
        }
        BarredGrid x = Make.loaded(large);
        Make.type(x, "G22....");
        Check.due("load", 4, x.load());
        Check.due("no words", 0, x.about(8));
        Check.due("no line", 0, x.about(9));
        Check.throwsIt("no word", Check.INDEX, () -> x.word(0, 0));
        Check.throwsIt("no cell", Check.INDEX, () -> x.cell(4, 0));
        // What stood in the place of a shorter word or of the line does not come back.
        Make.type(x, "ab");
        Check.due("a word", 0, x.addWord());
        Check.due("its third letter", NONE, x.word(0, 2));
    }

    // "Forgets all remembered states"
    private static void loadForgetsStates() {
        for (int actions : new int[] {0, 1, 13, 14, 15, 20}) {
            BarredGrid x = Make.acted(actions);
            Make.type(x, "G22....");
            x.load();
            Check.throwsIt("undo after load", Check.STATE, x::undo);
            for (int i = 0; i < 15; i++) {
                x.put(0, 'a' + i);
            }
            for (int left = 13; left >= 0; left--) {
                Check.due("undo", left, x.undo());
                Check.due("the letter", 'a' + left, x.cell(0, 0));
            }
            Check.throwsIt("undo of none", Check.STATE, x::undo);
        }
    }

    // "and empties both save slots"
    private static void loadEmptiesSlots() {
        for (int slots = 0; slots <= 3; slots++) {
            BarredGrid x = Make.typed("G22....");
            for (int slot = 0; slot <= 1; slot++) {
                if ((slots >> slot & 1) == 1) {
                    x.save(slot);
                }
            }
            x.load();
            Check.throwsIt("restore 0", Check.STATE, () -> x.restore(0));
            Check.throwsIt("restore 1", Check.STATE, () -> x.restore(1));
            x.save(1);
            Check.throwsIt("restore 0 still", Check.STATE, () -> x.restore(0));
            Check.due("restore 1 then", 4, x.restore(1));
        }
    }

    // "Keeps the text."
    private static void loadKeepsText() {
        BarredGrid x = Make.typed("G22abcd/ab");
        for (int i = 0; i < 3; i++) {
            Check.due("load", 4, x.load());
            Check.due("errorPosition", NONE, x.errorPosition());
            Check.due("words", 1, x.about(8));
            x.put(0, 0);
        }
        Check.due("append", 11, x.append('c'));
        Check.due("load", 4, x.load());
        Check.due("the third letter", 'c', x.word(0, 2));
        Check.due("its length", 11, x.clearText());
        Check.due("the grid stays", 4, x.about(2));
    }

    // "Returns the number of cells."
    private static void loadCells() {
        Check.due("the fewest", 4, Make.typed("G22....").load());
        Check.due("the most", 36, Make.typed(Make.open(6, 6, ".")).load());
        Check.due("the most, with bars and parts", 36, Make.typed(NEARLY_FULL).load());
    }

    // "load and restore are not actions."
    private static void loadIsNoAction() {
        BarredGrid x = Make.busy("G22....");
        x.load();
        Check.throwsIt("undo", Check.STATE, x::undo);
        x.put(0, 'a');
        Check.due("undo of the put", 0, x.undo());
        Check.due("entries", 4, x.about(2));
    }
}
