import java.util.function.IntPredicate;

/** The boundary cases that the section "Terms" names, sentence by sentence; text, undo and exceptions have tests of their own. */
public final class TermsBoundaryTest {
    private static final int NONE = -9;
    private static final IntPredicate NO = c -> false;
    private static final IntPredicate ALL = c -> true;

    public static void main(String[] args) {
        sizes();
        numbersOfCells();
        lettersOrEmpty();
        noBarsAtTheRim();
        newObject();
        piecesOfTwoOrMore();
        piecesDownOfTwoOrMore();
        endsOfEntries();
        acrossIsFirst();
        numbersOfEntries();
        checkedUncheckedLonely();
        clueNumbers();
        wordsAtMost();
        lettersOfWords();
        fitsAsLong();
        fitsEachCell();
        lineAtMost();
        differentCells();
        uncheckedCells();
        knightsSteps();
        barsDoNotMatter();
        possibleMayBeEmpty();
        noLine();
        orderOfReadings();
        turnedByHalf();
        turnedPairs();
        lonely();
        moreUncheckedThanChecked();
        uncheckedPairs();
        allReached();
        Check.end();
    }

    // "The grid has 2 to 6 rows and 2 to 6 columns."
    private static void sizes() {
        for (int rows = 0; rows <= 9; rows++) {
            for (int columns = 0; columns <= 9; columns++) {
                String signs = Make.open(rows, columns, ".");
                String what = rows + " rows, " + columns + " columns";
                if (rows < 2 || rows > 6 || columns < 2 || columns > 6) {
                    Check.due(what, rows < 2 || rows > 6 ? 1 : 2, Make.typed(signs).errorPosition());
                    Check.throwsIt(what, Check.STATE, () -> Make.typed(signs).load());
                } else {
                    Check.due(what, rows * columns, Make.typed(signs).load());
                    BarredGrid x = Make.loaded(signs);
                    Check.due(what, rows, x.about(0));
                    Check.due(what, columns, x.about(1));
                    Check.due(what + ", entries", rows + columns, x.about(2));
                    Check.due(what + ", empty", rows * columns, x.about(6));
                    int cells = rows * columns;
                    Check.due(what + ", last cell", 0, x.cell(cells - 1, 0));
                    Check.throwsIt(what + ", no cell", Check.INDEX, () -> x.cell(cells, 0));
                }
            }
        }
    }

    // "Its cells are numbered from 0, row by row from the top, each row from the left."
    private static void numbersOfCells() {
        String letters = "abcdefghijklmnopqrstuvwxyz.zyxwvutsr";
        for (int rows = 2; rows <= 6; rows++) {
            for (int columns = 2; columns <= 6; columns++) {
                String what = rows + " rows, " + columns + " columns, ";
                BarredGrid x = Make.loaded(Make.open(rows, columns, letters));
                for (int c = 0; c < rows * columns; c++) {
                    Check.due(what + c, letters.charAt(c) == '.' ? 0 : letters.charAt(c), x.cell(c, 0));
                    Check.due(what + "row of " + c, c / columns * columns, x.entry(x.cell(c, 3), 0));
                    Check.due(what + "column of " + c, c % columns, x.entry(x.cell(c, 4), 0));
                }
            }
        }
    }

    // "A cell has a letter from a to z or is empty."
    private static void lettersOrEmpty() {
        BarredGrid x = Make.loaded("G22az.m");
        Check.dueAll("letters", new int[] {'a', 'z', 0, 'm'}, c -> x.cell(c, 0));
        Check.due("empty cells", 1, x.about(6));
    }

    // "(There are none at the rim.)"
    private static void noBarsAtTheRim() {
        for (int rows = 2; rows <= 6; rows++) {
            for (int columns = 2; columns <= 6; columns++) {
                String full = Make.grid(rows, columns, ".", ALL, ALL);
                BarredGrid x = Make.loaded(full);
                Check.due("bars of " + full, rows * (columns - 1) + columns * (rows - 1), x.about(7));
                for (int c = 0; c < rows * columns; c++) {
                    Check.due("right of " + c + " in " + full, c % columns < columns - 1 ? 1 : 0, x.cell(c, 1));
                    Check.due("below " + c + " in " + full, c / columns < rows - 1 ? 1 : 0, x.cell(c, 2));
                }
            }
        }
    }

    // "A new object has 3 rows and 3 columns of empty cells, without bars."
    private static void newObject() {
        BarredGrid x = new BarredGrid();
        Check.due("rows", 3, x.about(0));
        Check.due("columns", 3, x.about(1));
        for (int what = 0; what <= 2; what++) {
            int w = what;
            Check.dueAll("new cell, " + w, new int[9], c -> x.cell(c, w));
        }
        Check.throwsIt("tenth cell", Check.INDEX, () -> x.cell(9, 0));
    }

    // "An entry across is a row of two or more cells side by side without bars between them"
    private static void piecesOfTwoOrMore() {
        for (int columns = 2; columns <= 6; columns++) {
            for (int bars = 0; bars < 1 << columns - 1; bars++) {
                int all = bars;
                int width = columns;
                BarredGrid x = Make.loaded(Make.grid(2, columns, ".", c -> c >= width || (all >> c & 1) == 1, ALL));
                int entries = 0;
                for (int first = 0, c = 0; c < columns; c++) {
                    if (c == columns - 1 || (bars >> c & 1) == 1) {
                        int length = c - first + 1;
                        Check.due("entry at " + c, length > 1 ? entries : NONE, x.cell(c, 3));
                        if (length > 1) {
                            Check.due("first cell", first, x.entry(entries, 0));
                            Check.due("length", length, x.entry(entries, 2));
                            entries++;
                        }
                        first = c + 1;
                    }
                }
                Check.due("entries with the bars " + bars, entries, x.about(2));
                Check.due("entries across with the bars " + bars, entries, x.about(3));
            }
        }
    }

    // "an entry down likewise, from the top"
    private static void piecesDownOfTwoOrMore() {
        for (int rows = 2; rows <= 6; rows++) {
            for (int bars = 0; bars < 1 << rows - 1; bars++) {
                int all = bars;
                BarredGrid x = Make.loaded(Make.grid(rows, 2, ".", ALL, c -> c % 2 == 1 || (all >> c / 2 & 1) == 1));
                int entries = 0;
                for (int first = 0, row = 0; row < rows; row++) {
                    if (row == rows - 1 || (bars >> row & 1) == 1) {
                        int length = row - first + 1;
                        Check.due("entry in row " + row, length > 1 ? entries : NONE, x.cell(2 * row, 4));
                        if (length > 1) {
                            Check.due("first cell", 2 * first, x.entry(entries, 0));
                            Check.due("length", length, x.entry(entries, 2));
                            Check.due("it is down", 1, x.entry(entries, 1));
                            entries++;
                        }
                        first = row + 1;
                    }
                }
                Check.due("entries with the bars " + bars, entries, x.about(2));
                Check.due("none is across", 0, x.about(3));
            }
        }
    }

    // "that goes on at neither end (because of the rim or a bar)"
    private static void endsOfEntries() {
        BarredGrid x = Make.loaded("G26..|..|....|..|..");
        Check.dueAll("entries between bars and rims", new int[] {0, 0, 2, 2, 4, 4}, c -> x.entry(x.cell(c, 3), 0));
        BarredGrid open = Make.loaded(Make.open(6, 6, "."));
        Check.due("the last cell of a row and the first of the next", 6, open.entry(open.cell(6, 3), 0));
        Check.due("they are in two entries", 0, open.entry(open.cell(5, 3), 0));
        Check.dueAll("lengths from rim to rim", new int[] {6, 6, 6, 6, 6, 6, 6, 6, 6, 6, 6, 6}, e -> open.entry(e, 2));
    }

    // "of two with the same first cell the one across is first"
    private static void acrossIsFirst() {
        BarredGrid x = new BarredGrid();
        Check.dueAll("both at 0, down at 1 and 2, across at 3 and 6", new int[] {0, 1, 1, 1, 0, 0}, e -> x.entry(e, 1));
        BarredGrid later = Make.loaded("G33._._._......");
        Check.due("down from 4", 4, later.entry(later.cell(4, 4), 0));
        Check.due("across, then down, from 3", 1, later.cell(3, 4) - later.cell(3, 3));
    }

    // "Entries are numbered from 0 by their first cells"
    private static void numbersOfEntries() {
        BarredGrid x = Make.loaded(Make.LARGER);
        Check.dueAll("first cells", new int[] {0, 1, 1, 2, 3, 4, 8}, e -> x.entry(e, 0));
        Check.dueAll("down or across", new int[] {1, 0, 1, 1, 1, 0, 0}, e -> x.entry(e, 1));
        Check.throwsIt("no entry", Check.INDEX, () -> x.entry(7, 0));
    }

    // "A cell is checked if it is in two entries, unchecked if it is in one, and lonely if it is in none."
    private static void checkedUncheckedLonely() {
        BarredGrid walls = Make.loaded(Make.WALLS);
        Check.due("checked behind walls", 0, walls.about(4));
        Check.due("unchecked behind walls", 0, walls.about(5));
        Check.dueAll("all are lonely", new int[4], c -> walls.cell(c, 5));
        BarredGrid rows = Make.loaded(Make.rows(6, 6, "."));
        Check.due("checked in rows", 0, rows.about(4));
        Check.due("unchecked in rows", 36, rows.about(5));
        BarredGrid open = Make.loaded(Make.open(6, 6, "."));
        Check.due("checked in the open", 36, open.about(4));
        Check.due("unchecked in the open", 0, open.about(5));
        // Cell 0 is lonely, and the others are in what is left of its row and its column.
        BarredGrid mixed = Make.loaded("G33.|_........");
        Check.dueAll("in entries", new int[] {0, 2, 2, 2, 2, 2, 2, 2, 2}, c -> mixed.cell(c, 5));
        BarredGrid corner = Make.loaded("G22.|_...");
        Check.dueAll("in entries of the corner", new int[] {0, 1, 1, 2}, c -> corner.cell(c, 5));
        Check.due("checked", 1, corner.about(4));
        Check.due("unchecked", 2, corner.about(5));
    }

    // "The first cells of entries have clue numbers: 1, 2, and so on (a first cell of two has one number)"
    private static void clueNumbers() {
        Check.due("no clue", 0, Make.loaded(Make.WALLS).about(10));
        Check.due("no clue of a cell", NONE, Make.loaded(Make.WALLS).cell(0, 6));
        BarredGrid open = Make.loaded(Make.open(6, 6, "."));
        Check.due("greatest in the open", 11, open.about(10));
        Check.dueAll("first row", new int[] {1, 2, 3, 4, 5, 6, 7, NONE}, c -> open.cell(c, 6));
        Check.due("last row", 11, open.cell(30, 6));
        Check.due("last cell", NONE, open.cell(35, 6));
        Check.due("clue across", 1, open.entry(0, 5));
        Check.due("clue down", 1, open.entry(1, 5));
        Check.due("clue of the last entry", 11, open.entry(11, 5));
        BarredGrid pairs = Make.loaded(Make.grid(6, 6, ".", c -> c % 2 == 1, c -> c / 6 % 2 == 1));
        Check.due("most entries", 36, pairs.about(2));
        Check.due("most entries across", 18, pairs.about(3));
        Check.due("greatest of them", 27, pairs.about(10));
        Check.due("first cell of the last entry", 34, pairs.entry(35, 0));
        Check.due("clue of the last entry", 27, pairs.entry(35, 5));
        Check.throwsIt("one more", Check.INDEX, () -> pairs.entry(36, 0));
    }

    // "There are at most 8 words, numbered from 0"
    private static void wordsAtMost() {
        String signs = "G22....";
        Check.due("no word", 0, Make.loaded(signs).about(8));
        for (int words = 1; words <= 8; words++) {
            signs = signs + "/a" + (char) ('a' + words);
            BarredGrid x = Make.loaded(signs);
            int last = words - 1;
            Check.due("words", words, x.about(8));
            Check.due("the last one", 'a' + words, x.word(last, 1));
            Check.throwsIt("no more", Check.INDEX, () -> x.word(last + 1, 0));
        }
        String nine = signs + "/zz";
        Check.throwsIt("nine words", Check.STATE, () -> Make.typed(nine).load());
    }

    // "each of 2 to 6 letters"
    private static void lettersOfWords() {
        for (int length = 1; length <= 7; length++) {
            String letters = "abcdefg".substring(0, length);
            if (length < 2 || length > 6) {
                Check.throwsIt("load /" + letters, Check.STATE, () -> Make.typed("G22..../" + letters).load());
                Check.throwsIt("addWord " + letters, Check.STATE, () -> Make.typed(letters).addWord());
            } else {
                BarredGrid x = Make.loaded("G22..../" + letters);
                Make.type(x, letters);
                Check.due("addWord " + letters, 1, x.addWord());
                for (int i = 0; i <= 7; i++) {
                    Check.due("letter " + i, i < length ? 'a' + i : NONE, x.word(0, i));
                    Check.due("letter " + i, i < length ? 'a' + i : NONE, x.word(1, i));
                }
            }
        }
    }

    // "An entry fits a word if it is as long"
    private static void fitsAsLong() {
        // Rows of 6, 2 and 4, 4 and 2, 3 and 3, 5 and a lonely cell.
        IntPredicate right = c -> c == 7 || c == 15 || c == 20 || c == 28;
        BarredGrid x = Make.loaded(Make.grid(6, 6, ".", right, ALL) + "/aa/aaa/aaaa/aaaaa/aaaaaa");
        Check.dueAll("lengths", new int[] {6, 2, 4, 4, 2, 3, 3, 5, 6}, e -> x.entry(e, 2));
        for (int e = 0; e < 9; e++) {
            Check.due("one word is as long as entry " + e, 1, x.fits(e));
            for (int w = 0; w < 5; w++) {
                int entry = e;
                int word = w;
                if (x.entry(e, 2) == w + 2) {
                    Check.due("write", w + 2, x.write(e, w));
                    x.undo();
                } else {
                    Check.throwsIt("write " + e + ", " + w, Check.STATE, () -> x.write(entry, word));
                }
            }
        }
    }

    // "and each of its cells is empty or has the letter of the word"
    private static void fitsEachCell() {
        for (int i = 0; i < 6; i++) {
            BarredGrid x = Make.loaded("G26............/abcdef");
            x.put(i, 'a' + i);
            Check.due("the letter at " + i, 1, x.fits(0));
            x.put(i, 'z');
            Check.due("another letter at " + i, 0, x.fits(0));
            BarredGrid down = Make.loaded("G62............/abcdef");
            down.put(2 * i, 'a' + i);
            Check.due("the letter down at " + i, 1, down.fits(1));
            down.put(2 * i, 'z');
            Check.due("another letter down at " + i, 0, down.fits(1));
        }
        Check.due("all empty", 1, Make.loaded("G26............/abcdef").fits(0));
        Check.due("all full", 1, Make.loaded("G26abcdef....../abcdef").fits(0));
    }

    // "The line has at most 6 letters (at first none)."
    private static void lineAtMost() {
        Check.due("at first", 0, new BarredGrid().about(9));
        Check.due("at first, loaded", 0, Make.loaded("G22....").about(9));
        for (int length = 0; length <= 7; length++) {
            String letters = "abcdefg".substring(0, length);
            BarredGrid x = Make.typed(letters);
            BarredGrid y = Make.typed("G22....=" + letters);
            if (length < 1 || length > 6) {
                Check.throwsIt("setLine " + letters, Check.STATE, x::setLine);
                Check.throwsIt("load =" + letters, Check.STATE, y::load);
            } else {
                Check.due("setLine " + letters, length, x.setLine());
                Check.due("its letters", length, x.about(9));
                y.load();
                Check.due("loaded letters", length, y.about(9));
            }
        }
    }

    // "A reading is a row of different unchecked cells, as many as the line has letters"
    private static void differentCells() {
        // 0 and 5 alone have the letters, and are a step apart.
        String grid = Make.rows(3, 3, "azzzzbzzz");
        int[] want = {1, 1, 0, 0, 0, 0};
        for (int length = 1; length <= 6; length++) {
            Check.due("readings of " + length, want[length - 1],
                Make.loaded(grid + "=" + "ababab".substring(0, length)).readings());
        }
        // Around 0 5 6 1 8 3 2 7, and the cell in the middle alone.
        Check.due("one letter", 9, Make.loaded(Make.rows(3, 3, "a") + "=a").readings());
        for (int length = 2; length <= 6; length++) {
            Check.due("around, " + length, 16, Make.loaded(Make.rows(3, 3, "a") + "=" + "a".repeat(length)).readings());
        }
    }

    private static void uncheckedCells() {
        Check.due("checked cells", 0, Make.loaded(Make.open(3, 3, "a") + "=a").readings());
        Check.due("lonely cells", 0, Make.loaded(Make.grid(3, 3, "a", ALL, ALL) + "=a").readings());
        Check.due("possible checked cells", 0, Make.loaded(Make.open(3, 3, ".") + "=a").possible());
        Check.due("possible lonely cells", 0, Make.loaded(Make.grid(3, 3, ".", ALL, ALL) + "=a").possible());
        // 0 is lonely and 3 checked; 1 and 2 are unchecked.
        BarredGrid corner = Make.loaded("G22a|_aaa=a");
        Check.due("readings in the corner", 2, corner.readings());
        Check.due("the first of them", 1, corner.reading(0));
    }

    // "each one a knight's step from the one before (2 columns and 1 row, or 1 column and 2 rows)"
    private static void knightsSteps() {
        for (int rows = 2; rows <= 6; rows++) {
            for (int columns = 2; columns <= 6; columns++) {
                for (int a = 0; a < rows * columns; a++) {
                    steps(rows, columns, a);
                }
            }
        }
    }

    /** A step over the end of a row, to the next or the one before, is none. */
    private static void steps(int rows, int columns, int a) {
        String letters = Make.with("z".repeat(rows * columns), a, 'a');
        for (int b = 0; b < rows * columns; b++) {
            if (b != a) {
                int down = Math.abs(b / columns - a / columns);
                int across = Math.abs(b % columns - a % columns);
                boolean isStep = down == 1 && across == 2 || down == 2 && across == 1;
                BarredGrid x = Make.loaded(Make.rows(rows, columns, Make.with(letters, b, 'b')) + "=ab");
                String what = "from " + a + " to " + b + " of " + rows + " rows, " + columns + " columns";
                Check.due(what, isStep ? 1 : 0, x.readings());
                Check.due(what + ", first", isStep ? a : NONE, x.reading(0));
                Check.due(what + ", second", isStep ? b : NONE, x.reading(1));
            }
        }
    }

    // "bars do not matter for steps"
    private static void barsDoNotMatter() {
        BarredGrid x = Make.loaded("G33a_zz_zz|b_zzz=ab");
        Check.due("5 is lonely", 0, x.cell(5, 5));
        Check.due("readings to a lonely cell", 0, x.readings());
        // 0 and 1 side by side, and 5 and 8 below each other, with bars all around them.
        BarredGrid parted = Make.loaded("G33a_z|_z_zz|bzz|z=ab");
        Check.due("parted", false, parted.rule(4));
        Check.due("a reading over bars", 1, parted.readings());
        Check.due("from 0", 0, parted.reading(0));
        Check.due("to 5", 5, parted.reading(1));
    }

    // "A possible reading is the same, but its cells may also be empty."
    private static void possibleMayBeEmpty() {
        String[] grids = {"azzzzbzzz", "azzzz.zzz", ".zzzzbzzz", ".zzzz.zzz", "bzzzz.zzz", ".zzzzazzz", "bzzzzazzz"};
        int[] readings = {1, 0, 0, 0, 0, 0, 1};
        // Both ways are possible if the letters that there are suit them.
        int[] possible = {1, 1, 1, 2, 1, 1, 1};
        for (int i = 0; i < grids.length; i++) {
            BarredGrid x = Make.loaded(Make.rows(3, 3, grids[i]) + "=ab");
            Check.due("readings of " + grids[i], readings[i], x.readings());
            Check.due("possible of " + grids[i], possible[i], x.possible());
        }
    }

    // "Without a line there are none."
    private static void noLine() {
        for (String letters : new String[] {".", "a"}) {
            BarredGrid x = Make.loaded(Make.rows(6, 6, letters));
            Check.due("readings without a line", 0, x.readings());
            Check.due("possible without a line", 0, x.possible());
            Check.due("the first without a line", NONE, x.reading(0));
        }
    }

    // "Readings are in the order of their first cells, then of their second ones, and so on."
    private static void orderOfReadings() {
        BarredGrid x = Make.loaded(Make.rows(6, 6, "a") + "=aaaaaa");
        // Each cell is the smallest that can be stepped to and has not been read: from 8 this is 4, not 0.
        Check.dueAll("the first of many", new int[] {0, 8, 4, 15, 2, 6, NONE}, x::reading);
        // From 14 one can come to 1 3 6 10 18 22 25 27, of which 3 has no way on, and 6 has two: 2 and 19.
        BarredGrid on = Make.loaded(Make.rows(6, 6, lettersAt("a14 b3 b6 c19 c2 c27")) + "=abc");
        Check.dueAll("the first that goes on", new int[] {14, 6, 2, NONE}, on::reading);
        Check.due("two go on", 2, on.readings());
    }

    /** The letters of 36 cells, of which those that are named have one other than z. */
    private static String lettersAt(String named) {
        String letters = "z".repeat(36);
        for (String one : named.split(" ")) {
            letters = Make.with(letters, Integer.parseInt(one.substring(1)), one.charAt(0));
        }
        return letters;
    }

    // Rule 0: "a bar between two cells is one between those that they come to"
    private static void turnedByHalf() {
        for (int rows = 2; rows <= 6; rows++) {
            for (int columns = 2; columns <= 6; columns++) {
                Check.due("no bars", true, Make.loaded(Make.grid(rows, columns, ".", NO, NO)).rule(0));
                Check.due("all bars", true, Make.loaded(Make.grid(rows, columns, ".", ALL, ALL)).rule(0));
                for (int c = 0; c < rows * columns; c++) {
                    turned(rows, columns, c, c % columns < columns - 1, false);
                    turned(rows, columns, c, c / columns < rows - 1, true);
                }
            }
        }
    }

    /** One bar alone keeps the rule if it lies in the middle; together with the turned one it always does. */
    private static void turned(int rows, int columns, int c, boolean isPlace, boolean below) {
        if (isPlace) {
            int last = rows * columns - 1;
            int other = last - c - (below ? columns : 1);
            BarredGrid x = Make.loaded(Make.open(rows, columns, "."));
            x.setBar(c, below, true);
            String what = rows + " rows, " + columns + " columns, bar " + (below ? "below " : "right of ") + c;
            Check.due(what, c == other, x.rule(0));
            x.setBar(other, below, true);
            Check.due(what + " and its turned one", true, x.rule(0));
            x.setBar(c, below, false);
            Check.due("without " + what, c == other, x.rule(0));
        }
    }

    // A bar beside a cell is not the turned one of a bar below it.
    private static void turnedPairs() {
        Check.due("right of 0 and below 0", false, Make.loaded("G22.|_...").rule(0));
        Check.due("right of 0 and 2", true, Make.loaded("G22.|..|.").rule(0));
        Check.due("below 0 and 1", true, Make.loaded("G22._._..").rule(0));
        Check.due("right of 0 and 7, below 1", false, Make.loaded("G33.|._......|.").rule(0));
    }

    // Rule 1: "no cell is lonely"
    private static void lonely() {
        Check.due("the first", false, Make.loaded("G22.|_...").rule(1));
        Check.due("the last", false, Make.loaded("G22.._.|.").rule(1));
        Check.due("the middle", false, Make.loaded("G33.._..|.|_....").rule(1));
        Check.due("the middle with a way out", true, Make.loaded("G33.._..|.|....").rule(1));
        Check.due("all", false, Make.loaded(Make.WALLS).rule(1));
        Check.due("all but the last row", false, Make.loaded(Make.grid(6, 6, ".", c -> c < 30, ALL)).rule(1));
    }

    // Rule 2: "each entry has no more unchecked cells than checked ones"
    private static void moreUncheckedThanChecked() {
        // Bars below some cells of two rows make these cells of both rows unchecked.
        for (int columns = 2; columns <= 6; columns++) {
            for (int unchecked = 0; unchecked <= columns; unchecked++) {
                int u = unchecked;
                BarredGrid x = Make.loaded(Make.grid(2, columns, ".", NO, c -> c < u));
                Check.due(u + " of " + columns, 2 * u <= columns, x.rule(2));
                Check.due("they are unchecked", u, x.entry(0, 3));
            }
        }
        Check.due("down alone", false, Make.loaded("G32.|..|..|.").rule(2));
        // Three of the four cells in the first row, or in the last one, are unchecked; all others are checked.
        Check.due("the first entry alone", false, Make.loaded(Make.grid(3, 4, ".", NO, c -> c < 3)).rule(2));
        Check.due("the last entry alone", false, Make.loaded(Make.grid(3, 4, ".", NO, c -> c > 4)).rule(2));
        Check.due("two of the first alone", true, Make.loaded(Make.grid(3, 4, ".", NO, c -> c < 2)).rule(2));
        Check.due("without entries", true, Make.loaded(Make.WALLS).rule(2));
    }

    // Rule 3: "no entry has two unchecked cells that follow each other in it"
    private static void uncheckedPairs() {
        for (int bars = 0; bars < 64; bars++) {
            int all = bars;
            BarredGrid x = Make.loaded(Make.grid(2, 6, ".", NO, c -> (all >> c & 1) == 1));
            Check.due("unchecked as the bits of " + bars, (bars & bars >> 1) == 0, x.rule(3));
            BarredGrid y = Make.loaded(Make.grid(6, 2, ".", c -> (all >> c / 2 & 1) == 1, NO));
            Check.due("unchecked down as the bits of " + bars, (bars & bars >> 1) == 0, y.rule(3));
            BarredGrid first = Make.loaded(Make.grid(3, 6, ".", NO, c -> c < 6 && (all >> c & 1) == 1));
            Check.due("in the first entry alone, " + bars, (bars & bars >> 1) == 0, first.rule(3));
            BarredGrid last = Make.loaded(Make.grid(3, 6, ".", NO, c -> c >= 6 && (all >> c % 6 & 1) == 1));
            Check.due("in the last entry alone, " + bars, (bars & bars >> 1) == 0, last.rule(3));
        }
        Check.due("without entries", true, Make.loaded(Make.WALLS).rule(3));
    }

    // Rule 4: "from each cell one can come to each other one"
    private static void allReached() {
        Check.due("the last cut off", false, Make.loaded("G22.._.|.").rule(4));
        Check.due("the first cut off", false, Make.loaded("G22.|_...").rule(4));
        Check.due("two halves", false, Make.loaded("G22._._..").rule(4));
        Check.due("one bar short of it", true, Make.loaded("G22._...").rule(4));
        // One way through all 36 cells, row by row in turns, and the same with a bar anywhere on it.
        BarredGrid x = Make.loaded(Make.grid(6, 6, ".", NO, c -> c % 6 != (c / 6 % 2 == 0 ? 5 : 0)));
        Check.due("one way through all", true, x.rule(4));
        for (int c = 0; c < 36; c++) {
            for (int side = 0; side <= 1; side++) {
                boolean below = side == 1;
                if (below ? c < 30 && x.cell(c, 2) == 0 : c % 6 < 5) {
                    x.setBar(c, below, true);
                    Check.due("one way, a bar at " + c, false, x.rule(4));
                    x.undo();
                }
            }
        }
        // A way inwards round the middle, which goes to the left and up, too.
        Check.due("a way that turns back", true, Make.loaded("G33._._...|_....").rule(4));
    }
}
