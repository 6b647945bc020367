import java.util.function.IntPredicate;
import java.util.function.Supplier;

/** The boundary cases of the promises 6 to 13, sentence by sentence. */
public final class LookBoundaryTest {
    private static final int NONE = -9;
    private static final int LEAST = Integer.MIN_VALUE;
    private static final int MOST = Integer.MAX_VALUE;
    private static final IntPredicate NO = c -> false;
    private static final IntPredicate ALL = c -> true;

    /** Entries of two cells everywhere, which are as many as there can be. */
    private static final String PAIRS = Make.grid(6, 6, ".", c -> c % 2 == 1, c -> c / 6 % 2 == 1);

    public static void main(String[] args) {
        aboutRefused();
        aboutLeast();
        aboutMost();
        aboutCounts();
        cellRefused();
        cellBoth();
        cellAtTheCorners();
        cellWithoutEntry();
        cellLetterAndBars();
        entryRefused();
        entryBoth();
        entryWithoutEntries();
        entryFromEmptyToFull();
        entryUnchecked();
        entryIsWord();
        wordRefused();
        wordBoth();
        wordEnds();
        fitsRefused();
        fitsFromNoneToAll();
        ruleRefused();
        rulesKept();
        readingsFewAndMany();
        readingRefused();
        readingEnds();
        readingOfNone();
        looksChangeNothing();
        Check.end();
    }

    private static Supplier<BarredGrid> busy() {
        return () -> Make.busy("ab");
    }

    // ---- promise 6

    // "Throws IllegalArgumentException if what is not 0 to 10"
    private static void aboutRefused() {
        for (int what : new int[] {-1, 11, 12, -9, LEAST, MOST}) {
            Check.refused("about " + what, Check.ARGUMENT, BarredGrid::new, x -> x.about(what));
            Check.refused("about " + what, Check.ARGUMENT, busy(), x -> x.about(what));
        }
    }

    private static void aboutLeast() {
        Check.dueAll("about walls", new int[] {2, 2, 0, 0, 0, 0, 4, 4, 0, 0, 0}, Make.loaded(Make.WALLS)::about);
        Check.dueAll("about a full one", new int[] {2, 2, 4, 2, 4, 0, 0, 0, 0, 0, 3}, Make.loaded("G22abcd")::about);
        Check.dueAll("about large walls", new int[] {6, 6, 0, 0, 0, 0, 36, 60, 0, 0, 0},
            Make.loaded(Make.grid(6, 6, ".", ALL, ALL))::about);
        Check.dueAll("about one entry across", new int[] {2, 2, 1, 1, 0, 2, 4, 3, 0, 0, 1}, Make.loaded("G22._._.|.")::about);
        Check.dueAll("about one entry down", new int[] {2, 2, 1, 0, 0, 2, 4, 3, 0, 0, 1}, Make.loaded("G22.|._.|.")::about);
    }

    private static void aboutMost() {
        String parts = "/ab/ab/ab/ab/ab/ab/ab/ab=abcdef";
        Check.dueAll("about pairs", new int[] {6, 6, 36, 18, 36, 0, 36, 24, 8, 6, 27}, Make.loaded(PAIRS + parts)::about);
        Check.dueAll("about rows", new int[] {6, 6, 6, 6, 0, 36, 0, 30, 8, 6, 6},
            Make.loaded(Make.rows(6, 6, "a") + parts)::about);
        Check.dueAll("about columns", new int[] {6, 6, 6, 0, 0, 36, 36, 30, 0, 0, 6},
            Make.loaded(Make.grid(6, 6, ".", ALL, NO))::about);
    }

    private static void aboutCounts() {
        BarredGrid x = new BarredGrid();
        for (int filled = 1; filled <= 9; filled++) {
            x.put(filled - 1, 'a');
            Check.due("empty cells", 9 - filled, x.about(6));
        }
        x.put(4, 0);
        Check.due("empty again", 1, x.about(6));
        x.setBar(0, false, true);
        x.setBar(0, false, true);
        Check.due("a bar drawn twice", 1, x.about(7));
        x.setBar(1, false, false);
        Check.due("a bar taken away where there is none", 1, x.about(7));
        x.setBar(0, false, false);
        Check.due("no bar", 0, x.about(7));
    }

    // ---- promise 7

    // "Throws IndexOutOfBoundsException if there is no such cell; IllegalArgumentException if what is not 0 to 6"
    private static void cellRefused() {
        for (int c : new int[] {-1, 9, 10, 36, NONE, LEAST, MOST}) {
            Check.refused("cell " + c, Check.INDEX, BarredGrid::new, x -> x.cell(c, 0));
        }
        for (int c : new int[] {-1, 12, 36, LEAST, MOST}) {
            Check.refused("cell " + c + " of 12", Check.INDEX, busy(), x -> x.cell(c, 6));
        }
        for (int what : new int[] {-1, 7, 8, NONE, LEAST, MOST}) {
            Check.refused("cell, " + what, Check.ARGUMENT, BarredGrid::new, x -> x.cell(0, what));
            Check.refused("cell of 12, " + what, Check.ARGUMENT, busy(), x -> x.cell(11, what));
        }
        for (int what = 0; what <= 6; what++) {
            int w = what;
            Check.throwsIt("cell 4 of 4", Check.INDEX, () -> Make.loaded("G22....").cell(4, w));
            Check.throwsIt("cell 36 of 36", Check.INDEX, () -> Make.loaded(PAIRS).cell(36, w));
        }
    }

    private static void cellBoth() {
        for (int c : new int[] {-1, 9, LEAST, MOST}) {
            for (int what : new int[] {-1, 7, LEAST, MOST}) {
                Check.refused("cell " + c + ", " + what, Check.INDEX, BarredGrid::new, x -> x.cell(c, what));
            }
        }
    }

    private static void cellAtTheCorners() {
        BarredGrid x = Make.loaded(Make.open(6, 6, "abcdef"));
        Check.dueAll("first", new int[] {'a', 0, 0, 0, 1, 2, 1}, what -> x.cell(0, what));
        Check.dueAll("last of the first row", new int[] {'f', 0, 0, 0, 6, 2, 6}, what -> x.cell(5, what));
        Check.dueAll("first of the last row", new int[] {'a', 0, 0, 11, 1, 2, 11}, what -> x.cell(30, what));
        Check.dueAll("last", new int[] {'f', 0, 0, 11, 6, 2, NONE}, what -> x.cell(35, what));
    }

    // "its entry across, NONE without one; its entry down, NONE without one; its clue number, NONE without one"
    private static void cellWithoutEntry() {
        for (int cell = 0; cell < 4; cell++) {
            int c = cell;
            BarredGrid x = Make.loaded(Make.WALLS);
            Check.dueAll("lonely " + c, new int[] {NONE, NONE, 0, NONE}, i -> x.cell(c, 3 + i));
            BarredGrid rows = Make.loaded("G22._._..");
            Check.dueAll("in a row " + c, new int[] {c / 2, NONE, 1, c % 2 == 0 ? c / 2 + 1 : NONE}, i -> rows.cell(c, 3 + i));
            BarredGrid columns = Make.loaded("G22.|..|.");
            Check.dueAll("in a column " + c, new int[] {NONE, c % 2, 1, c < 2 ? c + 1 : NONE}, i -> columns.cell(c, 3 + i));
        }
    }

    private static void cellLetterAndBars() {
        BarredGrid x = Make.loaded("G22a|._.|z");
        Check.dueAll("letters", new int[] {'a', 0, 0, 'z'}, c -> x.cell(c, 0));
        Check.dueAll("bars to the right", new int[] {1, 0, 1, 0}, c -> x.cell(c, 1));
        Check.dueAll("bars below", new int[] {0, 1, 0, 0}, c -> x.cell(c, 2));
    }

    // ---- promise 8

    // "Throws IndexOutOfBoundsException if there is no such entry; IllegalArgumentException if what is not 0 to 6"
    private static void entryRefused() {
        for (int e : new int[] {-1, 6, 7, 36, NONE, LEAST, MOST}) {
            Check.refused("entry " + e, Check.INDEX, BarredGrid::new, x -> x.entry(e, 0));
        }
        int entries = Make.busy("ab").about(2);
        for (int e : new int[] {-1, entries, 36, LEAST, MOST}) {
            Check.refused("entry " + e + " of " + entries, Check.INDEX, busy(), x -> x.entry(e, 6));
        }
        for (int what : new int[] {-1, 7, 8, NONE, LEAST, MOST}) {
            Check.refused("entry, " + what, Check.ARGUMENT, BarredGrid::new, x -> x.entry(5, what));
            Check.refused("entry, " + what, Check.ARGUMENT, busy(), x -> x.entry(0, what));
        }
        for (int what = 0; what <= 6; what++) {
            int w = what;
            Check.throwsIt("entry 36 of 36", Check.INDEX, () -> Make.loaded(PAIRS).entry(36, w));
            Check.due("entry 35 of 36", w == 6, Make.loaded(PAIRS).entry(35, w) == NONE);
        }
    }

    private static void entryBoth() {
        for (int e : new int[] {-1, 6, LEAST, MOST}) {
            for (int what : new int[] {-1, 7, LEAST, MOST}) {
                Check.refused("entry " + e + ", " + what, Check.INDEX, BarredGrid::new, x -> x.entry(e, what));
            }
        }
        Check.refused("entry 0, 7 of none", Check.INDEX, () -> Make.loaded(Make.WALLS), x -> x.entry(0, 7));
    }

    private static void entryWithoutEntries() {
        for (int what = 0; what <= 6; what++) {
            int w = what;
            Check.refused("entry 0 of none", Check.INDEX, () -> Make.loaded(Make.WALLS), x -> x.entry(0, w));
        }
        // Entries that there were before do not count.
        BarredGrid x = new BarredGrid();
        Make.type(x, Make.WALLS);
        x.load();
        Check.throwsIt("entry 0 of none any more", Check.INDEX, () -> x.entry(0, 0));
    }

    // "how many are empty"
    private static void entryFromEmptyToFull() {
        BarredGrid x = Make.loaded("G26............/aaaaaa");
        for (int filled = 0; filled <= 6; filled++) {
            Check.due("empty", 6 - filled, x.entry(0, 4));
            Check.due("its word", filled == 6 ? 0 : NONE, x.entry(0, 6));
            Check.due("cells", 6, x.entry(0, 2));
            if (filled < 6) {
                x.put(5 - filled, 'a');
            }
        }
        Check.due("empty in the other row", 6, x.entry(x.cell(6, 3), 4));
        Check.due("empty down", 1, x.entry(1, 4));
    }

    // "how many of them are unchecked"
    private static void entryUnchecked() {
        for (int unchecked = 0; unchecked <= 6; unchecked++) {
            int u = unchecked;
            BarredGrid x = Make.loaded(Make.grid(2, 6, ".", NO, c -> c >= 6 - u));
            Check.due("unchecked of the first row", u, x.entry(0, 3));
            Check.due("unchecked of the last row", u, x.entry(x.about(2) - 1, 3));
        }
    }

    // "the first word that its letters are, NONE if it has empty cells or is no word"
    private static void entryIsWord() {
        BarredGrid x = Make.loaded("G22ab../ba/abc/a" + "b/ab/ab/ab/ab/ab");
        Check.due("the first of six", 2, x.entry(0, 6));
        Check.due("with an empty cell", NONE, x.entry(1, 6));
        x.put(0, 'b');
        Check.due("no word", NONE, x.entry(0, 6));
        x.put(1, 'a');
        Check.due("the first word", 0, x.entry(0, 6));
        Check.due("without words", NONE, Make.loaded("G22abcd").entry(0, 6));
        Check.due("the beginning of a word", NONE, Make.loaded("G22abcd/abc").entry(0, 6));
        Check.due("more than a word", NONE, Make.loaded("G23abcdef/ab/bc").entry(0, 6));
        Check.due("the last of eight", 7, Make.loaded("G22ab../ba/ba/ba/ba/ba/ba/ba/ab").entry(0, 6));
        Check.due("six letters", 0, Make.loaded("G62a.b.c.d.e.f./abcdef").entry(1, 6));
        Check.due("another last letter", NONE, Make.loaded("G62a.b.c.d.e.g./abcdef").entry(1, 6));
        Check.due("an empty entry fits, but is no word", NONE, Make.loaded("G22..../ab").entry(0, 6));
    }

    // ---- promise 9

    // "Throws IndexOutOfBoundsException if there is no such word; IllegalArgumentException if i is negative"
    private static void wordRefused() {
        for (int w : new int[] {-1, 0, 1, NONE, LEAST, MOST}) {
            Check.refused("word " + w + " of none", Check.INDEX, BarredGrid::new, x -> x.word(w, 0));
        }
        for (int w : new int[] {-1, 5, 8, LEAST, MOST}) {
            Check.refused("word " + w + " of 5", Check.INDEX, busy(), x -> x.word(w, 0));
        }
        for (int w : new int[] {-1, 8, 9, LEAST, MOST}) {
            Check.refused("word " + w + " of 8", Check.INDEX,
                () -> Make.loaded("G22...." + "/ab".repeat(8)), x -> x.word(w, 0));
        }
        for (int i : new int[] {-1, NONE, LEAST}) {
            Check.refused("word, " + i, Check.ARGUMENT, busy(), x -> x.word(0, i));
            Check.refused("last word, " + i, Check.ARGUMENT, busy(), x -> x.word(4, i));
        }
    }

    private static void wordBoth() {
        for (int i : new int[] {-1, LEAST}) {
            Check.refused("word 0 of none, " + i, Check.INDEX, BarredGrid::new, x -> x.word(0, i));
            Check.refused("word 5 of 5, " + i, Check.INDEX, busy(), x -> x.word(5, i));
            Check.refused("word -1, " + i, Check.INDEX, busy(), x -> x.word(-1, i));
        }
    }

    // "Returns its code; NONE if the word has not so many letters."
    private static void wordEnds() {
        BarredGrid x = Make.loaded("G22..../az/zyxwvu/abc");
        Check.dueAll("two letters", new int[] {'a', 'z', NONE, NONE, NONE, NONE, NONE}, i -> x.word(0, i));
        Check.dueAll("six letters", new int[] {'z', 'y', 'x', 'w', 'v', 'u', NONE, NONE}, i -> x.word(1, i));
        Check.dueAll("three letters", new int[] {'a', 'b', 'c', NONE, NONE, NONE, NONE}, i -> x.word(2, i));
        for (int w = 0; w < 3; w++) {
            Check.due("far away", NONE, x.word(w, 36));
            Check.due("farthest away", NONE, x.word(w, MOST));
        }
        // A word in the place of a longer one that undo took back has no letters of it.
        Make.type(x, "abcdef");
        x.addWord();
        x.undo();
        Make.type(x, "xy");
        x.addWord();
        Check.dueAll("shorter than before", new int[] {'x', 'y', NONE, NONE, NONE, NONE}, i -> x.word(3, i));
    }

    // ---- promise 10

    // "Throws IndexOutOfBoundsException if there is no such entry"
    private static void fitsRefused() {
        for (int e : new int[] {-1, 6, 36, NONE, LEAST, MOST}) {
            Check.refused("fits " + e, Check.INDEX, BarredGrid::new, x -> x.fits(e));
        }
        for (int e : new int[] {-1, 0, LEAST, MOST}) {
            Check.refused("fits " + e + " of none", Check.INDEX, () -> Make.loaded(Make.WALLS + "/ab"), x -> x.fits(e));
        }
        int entries = Make.busy("ab").about(2);
        Check.refused("fits " + entries, Check.INDEX, busy(), x -> x.fits(entries));
    }

    // "Returns how many words it fits."
    private static void fitsFromNoneToAll() {
        Check.due("no words", 0, new BarredGrid().fits(0));
        for (int words = 0; words <= 8; words++) {
            String parts = "/ab".repeat(words);
            Check.due("an empty entry", words, Make.loaded("G22...." + parts).fits(0));
            Check.due("a full entry", words, Make.loaded("G22ab.." + parts).fits(0));
            Check.due("the last letter", words, Make.loaded("G22.b.." + parts).fits(0));
            Check.due("another last letter", 0, Make.loaded("G22.a.." + parts).fits(0));
            Check.due("another first letter", 0, Make.loaded("G22b..." + parts).fits(0));
            Check.due("longer than the words", 0, Make.loaded("G33........." + parts).fits(0));
        }
        Check.due("shorter than the words", 0, Make.loaded("G22..../abc/abcdef").fits(0));
        BarredGrid pairs = Make.loaded(PAIRS + "/ab");
        Check.due("the last of 36 entries", 1, pairs.fits(35));
    }

    // ---- promise 11

    // "Throws IllegalArgumentException if k is out of range"
    private static void ruleRefused() {
        for (int k : new int[] {-1, 5, 6, NONE, LEAST, MOST}) {
            Check.refused("rule " + k, Check.ARGUMENT, BarredGrid::new, x -> x.rule(k) ? 1 : 0);
            Check.refused("rule " + k, Check.ARGUMENT, busy(), x -> x.rule(k) ? 1 : 0);
        }
    }

    private static void rulesKept() {
        for (int k = 0; k <= 4; k++) {
            Check.due("rule of a new object", true, new BarredGrid().rule(k));
            Check.due("rule of the smallest", true, Make.loaded("G22....").rule(k));
            Check.due("rule of the largest", true, Make.loaded(Make.open(6, 6, ".")).rule(k));
            Check.due("rule of walls", k == 0 || k == 2 || k == 3, Make.loaded(Make.WALLS).rule(k));
            Check.due("rule of pairs", k != 4, Make.loaded(PAIRS).rule(k));
            Check.due("rule of rows", k < 2, Make.loaded(Make.rows(6, 6, ".")).rule(k));
        }
    }

    // ---- promise 12

    // "Returns the number of readings."
    private static void readingsFewAndMany() {
        int[] want = {36, 160, 664, 2576, 9328, 34448};
        for (int length = 1; length <= 6; length++) {
            String line = "=" + "a".repeat(length);
            Check.due("the most of " + length, want[length - 1], Make.loaded(Make.rows(6, 6, "a") + line).readings());
            Check.due("none of empty cells", 0, Make.loaded(Make.rows(6, 6, ".") + line).readings());
            Check.due("none of other letters", 0, Make.loaded(Make.rows(6, 6, "b") + line).readings());
            Check.due("in the smallest", length == 1 ? 4 : 0, Make.loaded(Make.rows(2, 2, "a") + line).readings());
        }
        Check.due("no line", 0, Make.loaded(Make.rows(6, 6, "a")).readings());
        Check.due("a new object", 0, new BarredGrid().readings());
        Check.due("one", 1, Make.loaded(Make.rows(2, 3, "azzzzb") + "=ab").readings());
        Check.due("the last letter is another", 0, Make.loaded(Make.rows(2, 3, "azzzzc") + "=ab").readings());
    }

    // ---- promise 13

    // "Throws IllegalArgumentException if i is negative"
    private static void readingRefused() {
        for (int i : new int[] {-1, NONE, LEAST}) {
            Check.refused("reading " + i + " of none", Check.ARGUMENT, BarredGrid::new, x -> x.reading(i));
            Check.refused("reading " + i, Check.ARGUMENT, busy(), x -> x.reading(i));
            Check.refused("reading " + i + " of one", Check.ARGUMENT,
                () -> Make.loaded(Make.rows(2, 3, "azzzzb") + "=ab"), x -> x.reading(i));
        }
    }

    // "NONE if ... it has not so many cells"
    private static void readingEnds() {
        int[] cells = {0, 5, 6, 1, 8, 3};
        for (int length = 1; length <= 6; length++) {
            BarredGrid x = Make.loaded(Make.rows(3, 3, "a") + "=" + "a".repeat(length));
            for (int i = 0; i <= 7; i++) {
                Check.due("cell " + i + " of " + length, i < length ? cells[i] : NONE, x.reading(i));
            }
            Check.due("far away", NONE, x.reading(36));
            Check.due("farthest away", NONE, x.reading(MOST));
        }
        BarredGrid last = Make.loaded(Make.rows(6, 6, "z".repeat(35) + "a") + "=a");
        Check.dueAll("the last cell", new int[] {35, NONE}, last::reading);
    }

    // "NONE if there is no reading"
    private static void readingOfNone() {
        int[] none = {NONE, NONE, NONE, NONE, NONE, NONE, NONE};
        Check.dueAll("without a line", none, new BarredGrid()::reading);
        Check.dueAll("in the open", none, Make.loaded(Make.open(3, 3, "a") + "=a")::reading);
        Check.dueAll("begun, but not ended", none, Make.loaded(Make.rows(3, 3, "abzzzbzzz") + "=abc")::reading);
        BarredGrid x = Make.loaded(Make.rows(3, 3, "azzzzbzzz") + "=ab");
        Check.due("one", 0, x.reading(0));
        x.put(5, 'z');
        Check.dueAll("none any more", none, x::reading);
        x.undo();
        Check.due("one again", 5, x.reading(1));
        // A possible reading over an empty cell is none.
        x.put(0, 0);
        Check.due("possible", 1, x.possible());
        Check.dueAll("none with an empty cell", none, x::reading);
    }

    private static void looksChangeNothing() {
        Check.changesNothing("about", busy(), x -> x.about(10));
        Check.changesNothing("cell", busy(), x -> x.cell(11, 6));
        Check.changesNothing("entry", busy(), x -> x.entry(0, 6));
        Check.changesNothing("word", busy(), x -> x.word(4, 6));
        Check.changesNothing("fits", busy(), x -> x.fits(0));
        Check.changesNothing("rule", busy(), x -> x.rule(4) ? 1 : 0);
        Check.changesNothing("readings", busy(), BarredGrid::readings);
        Check.changesNothing("reading", busy(), x -> x.reading(0));
    }
}
