import java.util.function.Supplier;

/** The boundary cases of the section "ACTIONS AND UNDO" and of the promises 14 to 20, sentence by sentence. */
public final class ActionBoundaryTest {
    private static final int NONE = -9;
    private static final int LEAST = Integer.MIN_VALUE;
    private static final int MOST = Integer.MAX_VALUE;
    private static final String LETTERS = "abcdefghijklmnopqrstuvwxy";

    public static void main(String[] args) {
        putRefused();
        putBoth();
        putPrevious();
        putLettersAtTheEnds();
        setBarNoCell();
        setBarAtTheRim();
        setBarBoth();
        setBarEntriesThen();
        setBarAgain();
        addWordRefused();
        addWordToEight();
        addWordNumbers();
        setLineRefused();
        setLineLengths();
        writeNoEntryNorWord();
        writeThatDoesNotFit();
        writeBoth();
        writeFromEmptyToFull();
        writeTwiceTheSameWord();
        eraseRefused();
        eraseEmpty();
        eraseFull();
        eraseKeepsWhatIsInFullEntries();
        undoOfNone();
        undoAtMostFourteen();
        undoIsNoAction();
        undoRoundTheRing();
        actionsThatChangeNothing();
        refusedActionsAreNone();
        undoTakesBackEverything();
        undoKeepsTextAndSlots();
        putAndSetBarChangeOnePlace();
        writeAndEraseChangeOneEntry();
        Check.end();
    }

    private static Supplier<BarredGrid> busy() {
        return () -> Make.busy("ab");
    }

    // ---- promise 14

    // "Throws IndexOutOfBoundsException if there is no such cell; IllegalArgumentException if letter is neither 0 nor 97 to 122"
    private static void putRefused() {
        for (int c : new int[] {-1, 9, 10, 36, NONE, LEAST, MOST}) {
            Check.refused("put into " + c, Check.INDEX, BarredGrid::new, x -> x.put(c, 'a'));
        }
        for (int c : new int[] {-1, 12, 36, LEAST, MOST}) {
            Check.refused("empty " + c + " of 12", Check.INDEX, busy(), x -> x.put(c, 0));
        }
        Check.refused("put into 4 of 4", Check.INDEX, () -> Make.loaded("G22...."), x -> x.put(4, 'a'));
        Check.refused("put into 36 of 36", Check.INDEX, () -> Make.loaded(Make.open(6, 6, ".")), x -> x.put(36, 'a'));
        for (int letter : new int[] {-1, 1, 2, '.', 'A', 'Z', 96, 123, 256, 256 + 'a', 65536 + 'a', -97, NONE, LEAST, MOST}) {
            Check.refused("put " + letter, Check.ARGUMENT, BarredGrid::new, x -> x.put(0, letter));
            Check.refused("put " + letter + " over a letter", Check.ARGUMENT, busy(), x -> x.put(11, letter));
        }
    }

    private static void putBoth() {
        for (int c : new int[] {-1, 9, LEAST, MOST}) {
            for (int letter : new int[] {-1, 1, 96, 123}) {
                Check.refused("put " + letter + " into " + c, Check.INDEX, BarredGrid::new, x -> x.put(c, letter));
            }
        }
    }

    // "Returns the code of the previous letter, 0 if it was empty."
    private static void putPrevious() {
        BarredGrid x = new BarredGrid();
        int[] letters = {0, 'a', 'a', 'z', 0, 0, 'z', 'a'};
        int[] previous = {0, 0, 'a', 'a', 'z', 0, 0, 'z'};
        for (int c = 0; c <= 8; c += 8) {
            for (int i = 0; i < letters.length; i++) {
                Check.due("put into " + c + ", " + i, previous[i], x.put(c, letters[i]));
                Check.due("it stands", letters[i], x.cell(c, 0));
            }
        }
        Check.due("no other cell", 7, x.about(6));
    }

    // "97 (a) to 122 (z)"
    private static void putLettersAtTheEnds() {
        BarredGrid x = Make.loaded(Make.open(6, 6, "."));
        for (int letter = 97; letter <= 122; letter++) {
            Check.due("put " + letter, letter == 97 ? 0 : letter - 1, x.put(35, letter));
        }
        Check.due("the last one", 'z', x.cell(35, 0));
    }

    // ---- promise 15

    // "Throws IndexOutOfBoundsException if there is no such cell"
    private static void setBarNoCell() {
        for (int c : new int[] {-1, 9, 36, NONE, LEAST, MOST}) {
            for (int how = 0; how < 4; how++) {
                boolean below = how % 2 == 1;
                boolean is = how / 2 == 1;
                Check.refused("bar at " + c, Check.INDEX, BarredGrid::new, x -> x.setBar(c, below, is));
            }
        }
        Check.refused("bar at 12 of 12", Check.INDEX, busy(), x -> x.setBar(12, true, true));
        Check.refused("bar at -1 of 12", Check.INDEX, busy(), x -> x.setBar(-1, false, true));
        Check.refused("bar at 4 of 4", Check.INDEX, () -> Make.loaded("G22...."), x -> x.setBar(4, true, true));
    }

    // "Throws IllegalArgumentException if there is the rim"
    private static void setBarAtTheRim() {
        for (int rows = 2; rows <= 6; rows++) {
            for (int columns = 2; columns <= 6; columns++) {
                String signs = Make.open(rows, columns, ".");
                for (int c = 0; c < rows * columns; c++) {
                    barOrRim(signs, c, false, c % columns == columns - 1);
                    barOrRim(signs, c, true, c / columns == rows - 1);
                }
            }
        }
        for (int c : new int[] {3, 7, 11}) {
            Check.refused("bar right of " + c, Check.ARGUMENT, busy(), x -> x.setBar(c, false, true));
            Check.refused("no bar right of " + c, Check.ARGUMENT, busy(), x -> x.setBar(c, false, false));
        }
        for (int c : new int[] {8, 9, 10, 11}) {
            Check.refused("bar below " + c, Check.ARGUMENT, busy(), x -> x.setBar(c, true, true));
            Check.refused("no bar below " + c, Check.ARGUMENT, busy(), x -> x.setBar(c, true, false));
        }
    }

    private static void barOrRim(String signs, int c, boolean below, boolean isRim) {
        String what = signs + ", bar " + (below ? "below " : "right of ") + c;
        BarredGrid x = Make.loaded(signs);
        if (isRim) {
            Check.throwsIt(what, Check.ARGUMENT, () -> x.setBar(c, below, true));
            Check.throwsIt(what + " away", Check.ARGUMENT, () -> x.setBar(c, below, false));
            Check.throwsIt(what + " is no action", Check.STATE, x::undo);
            Check.due(what + " is not there", 0, x.about(7));
        } else {
            x.setBar(c, below, true);
            Check.due(what, 1, x.cell(c, below ? 2 : 1));
            Check.due(what + ", the other side", 0, x.cell(c, below ? 1 : 2));
            Check.due(what + " is the only one", 1, x.about(7));
            x.setBar(c, below, false);
            Check.due(what + " is taken away", 0, x.about(7));
        }
    }

    // Behind the last cell, the rim does not count.
    private static void setBarBoth() {
        for (int c : new int[] {9, 11, -1, -4, MOST}) {
            Check.refused("no cell, and the rim", Check.INDEX, BarredGrid::new, x -> x.setBar(c, false, true));
            Check.refused("no cell, and the rim below", Check.INDEX, BarredGrid::new, x -> x.setBar(c, true, true));
        }
    }

    // "Returns the number of entries then."
    private static void setBarEntriesThen() {
        BarredGrid x = Make.loaded("G22....");
        Check.due("right of 0", 3, x.setBar(0, false, true));
        Check.due("right of 2", 2, x.setBar(2, false, true));
        Check.due("below 0", 1, x.setBar(0, true, true));
        Check.due("below 1", 0, x.setBar(1, true, true));
        Check.due("away below 1", 1, x.setBar(1, true, false));
        BarredGrid row = Make.loaded(Make.rows(2, 6, "."));
        int[] entries = {2, 3, 3, 3, 2};
        for (int c = 0; c < 5; c++) {
            Check.due("right of " + c, entries[c], row.setBar(c, false, true));
            row.setBar(c, false, false);
        }
    }

    // "whether there is a bar then"
    private static void setBarAgain() {
        BarredGrid x = new BarredGrid();
        for (int i = 0; i < 3; i++) {
            Check.due("drawn", 6, x.setBar(0, true, true));
            Check.due("it is there", 1, x.cell(0, 2));
        }
        for (int i = 0; i < 3; i++) {
            Check.due("taken away", 6, x.setBar(0, true, false));
            Check.due("it is not there", 0, x.cell(0, 2));
        }
        Check.due("six actions", 5, x.undo());
    }

    // ---- promise 16

    // "Throws IllegalStateException if the text is not 2 to 6 letters from a to z"
    private static void addWordRefused() {
        String[] bad = {"", "a", "abcdefg", "a".repeat(150), "`a", "a`", "{a", "a{", "aA", "Za", "a.", ".a", "a b", "/ab",
            "ab/", "=ab", "abcde\u00e1", "abcdef\u0000", "\u0000ab", "G22....", "12"};
        for (String signs : bad) {
            Check.refused("addWord " + signs, Check.STATE, () -> Make.typed(signs), BarredGrid::addWord);
            Check.refused("addWord to 5 " + signs, Check.STATE, () -> Make.busy(signs), BarredGrid::addWord);
        }
    }

    // "or if there are 8 words"
    private static void addWordToEight() {
        String eight = "G34............" + "/ab".repeat(8) + "=ab";
        for (String signs : new String[] {"ab", "abcdef", "", "a", "G22...."}) {
            Check.refused("a ninth " + signs, Check.STATE, () -> Make.busyIn(eight, signs), BarredGrid::addWord);
        }
        for (int words = 0; words <= 8; words++) {
            BarredGrid x = Make.loaded("G22...." + "/ab".repeat(words));
            Make.type(x, "az");
            if (words < 8) {
                Check.due("addWord to " + words, words, x.addWord());
                Check.due("words", words + 1, x.about(8));
                Check.due("its last letter", 'z', x.word(words, 1));
                x.undo();
            } else {
                Check.throwsIt("addWord to 8", Check.STATE, x::addWord);
            }
            Check.due("words before", words, x.about(8));
        }
    }

    // "Returns its number."
    private static void addWordNumbers() {
        String[] words = {"az", "abc", "abcd", "abcde", "zyxwvu", "az", "zz", "aa"};
        BarredGrid x = new BarredGrid();
        for (int w = 0; w < 8; w++) {
            Make.type(x, words[w]);
            Check.due("addWord", w, x.addWord());
        }
        for (int w = 0; w < 8; w++) {
            for (int i = 0; i <= 6; i++) {
                Check.due("letter " + i + " of " + w, i < words[w].length() ? words[w].charAt(i) : NONE, x.word(w, i));
            }
        }
        Check.due("the text stays", 2, x.clearText());
        Check.due("eight actions", 7, x.undo());
    }

    // ---- promise 17

    // "Throws IllegalStateException if the text is not 1 to 6 letters from a to z"
    private static void setLineRefused() {
        String[] bad = {"", "abcdefg", "a".repeat(150), "`", "{", "A", ".", "a.", "=a", "a ", "abcde\u00e1", "a\u0000", "1"};
        for (String signs : bad) {
            Check.refused("setLine " + signs, Check.STATE, () -> Make.typed(signs), BarredGrid::setLine);
            Check.refused("setLine over ace " + signs, Check.STATE, () -> Make.busy(signs), BarredGrid::setLine);
        }
    }

    // "Returns the number of its letters."
    private static void setLineLengths() {
        BarredGrid x = Make.loaded(Make.rows(3, 3, "a"));
        for (int length : new int[] {6, 1, 5, 2, 6, 3, 4, 1}) {
            Make.type(x, "aaaaaa".substring(0, length));
            Check.due("setLine", length, x.setLine());
            Check.due("its letters", length, x.about(9));
            Check.due("its readings", length == 1 ? 9 : 16, x.readings());
        }
        Make.type(x, "z");
        Check.due("setLine z", 1, x.setLine());
        Check.due("no readings", 0, x.readings());
        Check.due("undo of it", 8, x.undo());
        Check.due("readings of the last line", 9, x.readings());
    }

    // ---- promise 18

    // "Throws IndexOutOfBoundsException if there is no such entry or word"
    private static void writeNoEntryNorWord() {
        String square = "G22..../ab/cd/ac/bd";
        for (int number : new int[] {-1, 4, 8, 36, NONE, LEAST, MOST}) {
            Check.refused("entry " + number, Check.INDEX, () -> Make.loaded(square), x -> x.write(number, 0));
            Check.refused("word " + number, Check.INDEX, () -> Make.loaded(square), x -> x.write(0, number));
            Check.refused("both " + number, Check.INDEX, () -> Make.loaded(square), x -> x.write(number, number));
        }
        Check.refused("word 0 of none", Check.INDEX, BarredGrid::new, x -> x.write(0, 0));
        Check.refused("entry 0 of none", Check.INDEX, () -> Make.loaded(Make.WALLS + "/ab"), x -> x.write(0, 0));
        Check.refused("word 5 of 5", Check.INDEX, busy(), x -> x.write(0, 5));
        Check.refused("word -1 of 5", Check.INDEX, busy(), x -> x.write(0, -1));
        int entries = Make.busy("ab").about(2);
        Check.refused("entry of as many", Check.INDEX, busy(), x -> x.write(entries, 0));
    }

    // "Throws IllegalStateException if the entry does not fit the word"
    private static void writeThatDoesNotFit() {
        for (int length = 2; length <= 6; length++) {
            String word = "abcdef".substring(0, length);
            for (int columns = 2; columns <= 6; columns++) {
                String grid = Make.rows(2, columns, ".") + "/" + word;
                if (columns == length) {
                    Check.due("write " + word, length, Make.loaded(grid).write(1, 0));
                } else {
                    Check.refused("write " + word + " into " + columns, Check.STATE, () -> Make.loaded(grid), x -> x.write(1, 0));
                }
            }
        }
        for (int i = 0; i < 6; i++) {
            String letters = Make.with("............", i, 'z');
            Check.refused("another letter at " + i, Check.STATE,
                () -> Make.loaded("G26" + letters + "/abcdef"), x -> x.write(0, 0));
        }
        for (int w = 0; w < 5; w++) {
            int word = w;
            BarredGrid y = Make.busy("ab");
            for (int e = 0; e < Make.busy("ab").about(2); e++) {
                int entry = e;
                if (!doesFit(y, e, w)) {
                    Check.refused("write " + e + ", " + w, Check.STATE, busy(), x -> x.write(entry, word));
                }
            }
        }
    }

    private static boolean doesFit(BarredGrid x, int e, int w) {
        int length = x.entry(e, 2);
        boolean fits = x.word(w, length - 1) != NONE && x.word(w, length) == NONE;
        for (int i = 0; fits && i < length; i++) {
            int letter = x.cell(x.entry(e, 0) + i * (x.entry(e, 1) == 0 ? 1 : x.about(1)), 0);
            fits = letter == 0 || letter == x.word(w, i);
        }
        return fits;
    }

    private static void writeBoth() {
        // Entry 0 is full and fits no word; still there is no word 1.
        Check.refused("full, and no such word", Check.INDEX, () -> Make.loaded("G22zz../ab"), x -> x.write(0, 1));
        Check.refused("full, and word -1", Check.INDEX, () -> Make.loaded("G22zz../ab"), x -> x.write(0, -1));
        Check.refused("too long, and no such entry", Check.INDEX, () -> Make.loaded("G22..../abc"), x -> x.write(4, 0));
    }

    // "Returns how many cells of it were empty before."
    private static void writeFromEmptyToFull() {
        for (int filled = 0; filled < 64; filled++) {
            String letters = "";
            for (int i = 0; i < 6; i++) {
                letters = letters + ((filled >> i & 1) == 1 ? "abcdef".charAt(i) : '.');
            }
            String word = "/abcdef";
            BarredGrid x = Make.loaded(Make.open(2, 6, letters) + word);
            Check.due("write across into " + letters, 6 - Integer.bitCount(filled), x.write(0, 0));
            Check.due("it is the word", 0, x.entry(0, 6));
            Check.due("the other row", 6 - Integer.bitCount(filled), x.about(6));
            BarredGrid y = Make.loaded(Make.grid(6, 2, spread(letters), c -> false, c -> false) + word);
            Check.due("write down into " + letters, 6 - Integer.bitCount(filled), y.write(y.cell(1, 4), 0));
            Check.due("it is the word", 0, y.entry(y.cell(1, 4), 6));
            Check.due("the other column", 6, y.about(6));
        }
    }

    /** Each letter in the second column, behind an empty cell. */
    private static String spread(String letters) {
        StringBuilder all = new StringBuilder();
        for (int i = 0; i < letters.length(); i++) {
            all.append('.').append(letters.charAt(i));
        }
        return all.toString();
    }

    private static void writeTwiceTheSameWord() {
        BarredGrid x = Make.loaded("G22._._../ab");
        Check.due("write it", 2, x.write(0, 0));
        Check.due("write it again", 0, x.write(0, 0));
        Check.due("write it elsewhere", 2, x.write(1, 0));
        Check.due("three actions", 2, x.undo());
        Check.due("the first is there", 0, x.entry(0, 6));
        Check.due("the second is not", NONE, x.entry(1, 6));
    }

    // ---- promise 19

    // "Throws IndexOutOfBoundsException if there is no such entry"
    private static void eraseRefused() {
        for (int e : new int[] {-1, 6, 9, 36, NONE, LEAST, MOST}) {
            Check.refused("erase " + e, Check.INDEX, () -> Make.loaded("G33abcdefghi"), x -> x.erase(e));
        }
        Check.refused("erase 0 of none", Check.INDEX, () -> Make.loaded("G22a|_b_c|d"), x -> x.erase(0));
        int entries = Make.busy("ab").about(2);
        Check.refused("erase " + entries, Check.INDEX, busy(), x -> x.erase(entries));
        Check.refused("erase -1", Check.INDEX, busy(), x -> x.erase(-1));
    }

    // "Returns how many letters go."
    private static void eraseEmpty() {
        BarredGrid x = new BarredGrid();
        for (int e = 0; e < 6; e++) {
            Check.due("erase empty cells", 0, x.erase(e));
        }
        Check.due("six actions", 5, x.undo());
        for (int filled = 0; filled < 64; filled++) {
            String letters = "";
            for (int i = 0; i < 6; i++) {
                letters = letters + ((filled >> i & 1) == 1 ? 'z' : '.');
            }
            BarredGrid row = Make.loaded(Make.rows(2, 6, letters));
            Check.due("erase " + letters, Integer.bitCount(filled), row.erase(0));
            Check.due("all are empty", 6, row.entry(0, 4));
            Check.due("the other row stays", 6 - Integer.bitCount(filled), row.entry(1, 4));
            Check.due("erase it again", 0, row.erase(0));
        }
    }

    private static void eraseFull() {
        Check.due("rows of six", 6, Make.loaded(Make.rows(6, 6, "a")).erase(5));
        Check.due("columns of six", 6, Make.loaded(Make.grid(6, 6, "a", c -> true, c -> false)).erase(5));
        BarredGrid x = Make.loaded(Make.open(6, 6, "a"));
        for (int e = 0; e < 12; e++) {
            Check.due("in a full grid", 0, x.erase(e));
        }
        Check.due("nothing is empty", 0, x.about(6));
        // One empty cell opens its own row and column.
        x.put(0, 0);
        Check.due("the first row: the others are in full columns", 0, x.erase(0));
        Check.due("the second row: in the first column alone", 1, x.erase(x.cell(6, 3)));
        Check.due("the second column: in the first two rows", 2, x.erase(x.cell(1, 4)));
    }

    // "but those that are in another entry, too, which has no empty cells"
    private static void eraseKeepsWhatIsInFullEntries() {
        for (int empty = 0; empty < 8; empty++) {
            // Three columns, which are full but for some of their last cells.
            String last = "";
            for (int i = 0; i < 3; i++) {
                last = last + ((empty >> i & 1) == 1 ? '.' : 'c');
            }
            BarredGrid x = Make.loaded("G33aaabbb" + last);
            Check.due("letters that go above " + last, Integer.bitCount(empty), x.erase(0));
            for (int c = 0; c < 3; c++) {
                Check.due("cell " + c + " above " + last, (empty >> c & 1) == 1 ? 0 : 'a', x.cell(c, 0));
                Check.due("the cell below " + c, 'b', x.cell(3 + c, 0));
            }
        }
        // That the entry itself or one beside it is full keeps nothing; only entries that cross do.
        Check.due("a full entry", 2, Make.loaded("G22ab..").erase(0));
        Check.due("beside a full row", 2, Make.loaded("G22a_b_cd").erase(0));
        Check.due("an unchecked one and one in a full column", 1, Make.loaded("G22a_bcd").erase(0));
        Check.due("down, one in a full row and an unchecked one", 1, Make.loaded("G22abc|d").erase(1));
    }

    // ---- promise 20

    // "Throws IllegalStateException if none is remembered"
    private static void undoOfNone() {
        Check.refused("undo of a new one", Check.STATE, BarredGrid::new, BarredGrid::undo);
        Check.refused("undo of a loaded one", Check.STATE, () -> Make.loaded(Make.LARGER), BarredGrid::undo);
        Check.refused("undo of a restored one", Check.STATE, () -> {
            BarredGrid x = Make.busy("ab");
            x.restore(1);
            return x;
        }, BarredGrid::undo);
        Check.refused("undo when all is undone", Check.STATE, () -> {
            BarredGrid x = Make.busy("ab");
            for (int i = 0; i < 14; i++) {
                x.undo();
            }
            return x;
        }, BarredGrid::undo);
    }

    // "At most 14 states are remembered; when one more is remembered, the oldest one is forgotten."
    private static void undoAtMostFourteen() {
        for (int actions = 1; actions <= 45; actions++) {
            BarredGrid x = Make.acted(actions);
            int remembered = Math.min(14, actions);
            for (int k = 1; k <= remembered; k++) {
                Check.due("undo " + k + " of " + actions, remembered - k, x.undo());
                int left = actions - k;
                Check.due("letter after " + left, left == 0 ? 0 : 'a' + (left - 1) % 26, x.cell(0, 0));
            }
            Check.throwsIt("one more undo of " + actions, Check.STATE, x::undo);
            int left = actions - remembered;
            Check.due("the refused undo changes nothing", left == 0 ? 0 : 'a' + (left - 1) % 26, x.cell(0, 0));
        }
    }

    // "(undo is none)"
    private static void undoIsNoAction() {
        BarredGrid x = Make.acted(2);
        Check.due("undo", 1, x.undo());
        Check.due("the first letter", 'a', x.cell(0, 0));
        Check.due("undo goes on", 0, x.undo());
        Check.due("no letter", 0, x.cell(0, 0));
        Check.throwsIt("undo is not undone", Check.STATE, x::undo);
    }

    // What is undone gives its place to what is done next, wherever the oldest state stands.
    private static void undoRoundTheRing() {
        for (int first = 0; first <= 30; first += 3) {
            for (int undone = 0; undone <= Math.min(14, first); undone++) {
                BarredGrid x = Make.acted(first);
                for (int i = 0; i < undone; i++) {
                    x.undo();
                }
                for (int i = 0; i < 5; i++) {
                    x.put(1, 'p' + i);
                }
                int left = Math.min(14, Math.min(14, first) - undone + 5);
                for (int k = left - 1; k >= 0; k--) {
                    Check.due("undo", k, x.undo());
                    int back = left - k;
                    Check.due("cell 1", back >= 5 ? 0 : 'p' + 4 - back, x.cell(1, 0));
                    int acted = first - undone - Math.max(0, back - 5);
                    Check.due("cell 0", acted == 0 ? 0 : 'a' + (acted - 1) % 26, x.cell(0, 0));
                }
                Check.throwsIt("undo of none", Check.STATE, x::undo);
            }
        }
    }

    // "Each call of one of them that does not throw an exception is an action, also if nothing becomes different"
    private static void actionsThatChangeNothing() {
        String full = "G22abcd/ab=ab";
        Check.CallOn[] calls = {x -> x.put(0, 'a'), x -> x.setBar(0, false, false), BarredGrid::setLine,
            x -> x.write(0, 0), x -> x.erase(0)};
        for (int i = 0; i < calls.length; i++) {
            BarredGrid x = Make.loaded(full);
            Make.type(x, "ab");
            String before = Watch.state(x);
            calls[i].answer(x);
            Check.due("call " + i + " changes nothing", true, before.equals(Watch.state(x)));
            Check.due("call " + i + " is an action", 0, x.undo());
            Check.throwsIt("call " + i + " is one alone", Check.STATE, x::undo);
            Check.CallOn call = calls[i];
            forgetsTheOldest(call);
        }
        BarredGrid empty = new BarredGrid();
        empty.put(3, 0);
        empty.setBar(0, true, false);
        empty.erase(5);
        Check.due("three actions on an empty grid", 2, empty.undo());
    }

    /** Fourteen calls that change nothing push all earlier states out. */
    private static void forgetsTheOldest(Check.CallOn call) {
        BarredGrid x = Make.loaded("G22abcd/ab=ab");
        Make.type(x, "ab");
        x.put(3, 'z');
        for (int i = 0; i < 14; i++) {
            call.answer(x);
        }
        for (int left = 13; left >= 0; left--) {
            Check.due("undo", left, x.undo());
        }
        Check.due("the first action is not undone", 'z', x.cell(3, 0));
        Check.throwsIt("it is forgotten", Check.STATE, x::undo);
    }

    private static void refusedActionsAreNone() {
        BarredGrid x = Make.acted(14);
        Make.type(x, "A");
        Check.throwsIt("put", Check.INDEX, () -> x.put(9, 'a'));
        Check.throwsIt("setBar", Check.ARGUMENT, () -> x.setBar(8, true, true));
        Check.throwsIt("addWord", Check.STATE, x::addWord);
        Check.throwsIt("setLine", Check.STATE, x::setLine);
        Check.throwsIt("write", Check.INDEX, () -> x.write(0, 0));
        Check.throwsIt("erase", Check.INDEX, () -> x.erase(6));
        Check.throwsIt("load", Check.STATE, x::load);
        Check.throwsIt("restore", Check.STATE, () -> x.restore(0));
        for (int left = 13; left >= 0; left--) {
            Check.due("undo", left, x.undo());
        }
        Check.due("back to the beginning", 0, x.cell(0, 0));
        Check.throwsIt("undo of none", Check.STATE, x::undo);
    }

    // "the state, which consists of everything but the text and the save slots"
    private static void undoTakesBackEverything() {
        Check.CallOn[] calls = {x -> x.put(11, 'z'), x -> x.setBar(5, false, true), x -> x.setBar(6, true, true),
            BarredGrid::addWord, BarredGrid::setLine, x -> x.write(1, 0), x -> x.erase(5), x -> x.setBar(0, false, false)};
        String before = Watch.state(Make.loaded(Make.LARGER));
        for (int i = 0; i < calls.length; i++) {
            BarredGrid done = Make.loaded(Make.LARGER);
            Make.type(done, "bxb");
            calls[i].answer(done);
            Check.due("call " + i + " changes something", false, before.equals(Watch.state(done)));
            BarredGrid undone = Make.loaded(Make.LARGER);
            Make.type(undone, "bxb");
            calls[i].answer(undone);
            Check.due("undo of call " + i, 0, undone.undo());
            Check.due("call " + i + " is taken back", true, before.equals(Watch.state(undone)));
        }
    }

    private static void undoKeepsTextAndSlots() {
        BarredGrid x = Make.loaded("G22....");
        x.save(0);
        x.put(0, 'a');
        x.save(1);
        Make.type(x, "xyz");
        Check.due("undo", 0, x.undo());
        Check.due("the text", 3, x.clearText());
        Check.due("slot 1", 4, x.restore(1));
        Check.due("its letter", 'a', x.cell(0, 0));
        Check.due("slot 0", 4, x.restore(0));
        Check.due("its letter", 0, x.cell(0, 0));
    }

    // ---- promises 14, 15, 18, 19: what they do not name stays

    /** 5 rows and 5 columns; cells 11 to 13 are an entry across, and 7, 12 and 17 one down, with cells round them. */
    private static String ringed(String letters) {
        return Make.grid(5, 5, letters, c -> c == 10 || c == 13, c -> c == 2 || c == 17);
    }

    /** The text of the grid that an object has. */
    private static String shown(BarredGrid x) {
        StringBuilder letters = new StringBuilder();
        for (int c = 0; c < x.about(0) * x.about(1); c++) {
            letters.append(x.cell(c, 0) == 0 ? '.' : (char) x.cell(c, 0));
        }
        return Make.grid(x.about(0), x.about(1), letters.toString(), c -> x.cell(c, 1) == 1, c -> x.cell(c, 2) == 1);
    }

    private static void dueGrid(String what, String want, BarredGrid x) {
        Check.due(what + ": " + shown(x) + ", due is " + want, true, want.equals(shown(x)));
    }

    private static void putAndSetBarChangeOnePlace() {
        for (int c = 0; c < 25; c++) {
            int cell = c;
            BarredGrid x = Make.loaded(ringed(LETTERS));
            x.put(c, 'z');
            dueGrid("put into " + c, ringed(Make.with(LETTERS, c, 'z')), x);
            x.put(c, 0);
            dueGrid("empty " + c, ringed(Make.with(LETTERS, c, '.')), x);
            BarredGrid bare = Make.loaded(Make.open(5, 5, LETTERS));
            if (c % 5 < 4) {
                bare.setBar(c, false, true);
                dueGrid("bar beside " + c, Make.grid(5, 5, LETTERS, d -> d == cell, d -> false), bare);
                bare.setBar(c, false, false);
            }
            if (c / 5 < 4) {
                bare.setBar(c, true, true);
                dueGrid("bar below " + c, Make.grid(5, 5, LETTERS, d -> false, d -> d == cell), bare);
                bare.setBar(c, true, false);
            }
            dueGrid("no bars round " + c, Make.open(5, 5, LETTERS), bare);
        }
    }

    private static void writeAndEraseChangeOneEntry() {
        int entries = Make.loaded(ringed(LETTERS)).about(2);
        for (int e = 0; e < entries; e++) {
            BarredGrid x = Make.loaded(ringed(LETTERS) + "/zz/zzz/zzzz/zzzzz");
            int length = x.entry(e, 2);
            String without = LETTERS;
            String with = LETTERS;
            for (int i = 0; i < length; i++) {
                int c = x.entry(e, 0) + i * (x.entry(e, 1) == 1 ? 5 : 1);
                x.put(c, 0);
                without = Make.with(without, c, '.');
                with = Make.with(with, c, 'z');
            }
            dueGrid("before write " + e, ringed(without), x);
            Check.due("write " + e, length, x.write(e, length - 2));
            dueGrid("write " + e, ringed(with), x);
            x.undo();
            Check.due("erase " + e, 0, x.erase(e));
            dueGrid("erase " + e, ringed(without), x);
        }
        for (int e = 0; e < 5; e++) {
            String rest = LETTERS.substring(0, 5 * e) + "....." + LETTERS.substring(5 * e + 5);
            BarredGrid rows = Make.loaded(Make.rows(5, 5, LETTERS));
            Check.due("erase row " + e, 5, rows.erase(e));
            dueGrid("erase row " + e, Make.rows(5, 5, rest), rows);
        }
    }
}
