import java.math.BigInteger;
import java.util.function.IntPredicate;

/** The boundary cases of the promises 21 to 26, sentence by sentence. */
public final class WouldBeBoundaryTest {
    private static final int NONE = -9;
    private static final int LEAST = Integer.MIN_VALUE;
    private static final int MOST = Integer.MAX_VALUE;
    private static final IntPredicate ALL = c -> true;
    private static final IntPredicate NO = c -> false;

    public static void main(String[] args) {
        possibleNone();
        possibleUpTo9999();
        fillingsMoreEntriesThanWords();
        fillingsWithoutEntries();
        fillingsOfFullEntries();
        fillingsNoWordTwice();
        fillingsSameLetter();
        fillingsAtEachCrossing();
        fillingsMost();
        mendOfNone();
        mendFewestAndSmallest();
        mendAtTheLastPlaces();
        hardestOfNone();
        hardestSmallest();
        scriptRefused();
        scriptDigits();
        scriptCommandsOneByOne();
        scriptOtherGroups();
        scriptNumberOfReadings();
        scriptOneAfterAnother();
        scriptStopsAtTheFirst();
        simulateRefused();
        simulateRounds();
        simulateSeeds();
        simulateReadings();
        simulateMostEntries();
        theyChangeNothing();
        sameAnswerAgain();
        Check.end();
    }

    // ---- promise 21

    private static void possibleNone() {
        Check.due("a new object", 0, new BarredGrid().possible());
        Check.due("without a line", 0, Make.loaded(Make.rows(6, 6, ".")).possible());
        Check.due("without unchecked cells", 0, Make.loaded(Make.open(6, 6, ".") + "=a").possible());
        Check.due("of lonely cells", 0, Make.loaded(Make.WALLS + "=a").possible());
        Check.due("of other letters", 0, Make.loaded(Make.rows(6, 6, "b") + "=a").possible());
        Check.due("without room for a step", 0, Make.loaded(Make.rows(2, 2, ".") + "=ab").possible());
        Check.due("one letter without room", 4, Make.loaded(Make.rows(2, 2, ".") + "=a").possible());
    }

    // "Returns the number of possible readings; 9999 if there are more."
    private static void possibleUpTo9999() {
        dueNear(9997, "z.z........z.z.....az........z......", "aaaaab");
        dueNear(9998, "....z..a...zzz..z...a...a....zz.....", "aaaaaa");
        dueNear(9999, "aa.......za.a.........z...z.zza.....", "aaaaab");
        dueNear(10000, ".z......a....a.az...zaz.a...z.......", "aaaaaa");
        dueNear(10001, "z.z..zz...a......z.....z..azz.......", "abaaaa");
        int[] want = {36, 160, 664, 2576, 9328, 9999};
        for (int length = 1; length <= 6; length++) {
            String line = "=" + "abcdef".substring(0, length);
            Check.due("the most of " + length, want[length - 1], Make.loaded(Make.rows(6, 6, ".") + line).possible());
        }
        BarredGrid full = Make.loaded(Make.rows(6, 6, "a") + "=aaaaaa");
        Check.due("full cells", 9999, full.possible());
        Check.due("readings have no such limit", 34448, full.readings());
    }

    /** The grids were found by a search that counted their possible readings on its own. */
    private static void dueNear(int count, String letters, String line) {
        BarredGrid x = Make.loaded(Make.rows(6, 6, letters) + "=" + line);
        Check.due("possible, " + count, Math.min(9999, count), x.possible());
    }

    // ---- promise 22

    // "0 if there are more entries than words"
    private static void fillingsMoreEntriesThanWords() {
        // Rows alone: as many entries as rows, all of which can take each word.
        int[] ways = {0, 0, 2, 6, 24, 120, 720};
        for (int rows = 2; rows <= 6; rows++) {
            for (int words = 0; words <= rows; words++) {
                String signs = Make.rows(rows, 2, ".") + "/ab".repeat(words);
                Check.due(words + " words for " + rows, words < rows ? 0 : ways[rows], Make.loaded(signs).fillings());
            }
        }
        Check.due("a new object", 0, new BarredGrid().fillings());
        // Each entry is full and is a word, but there are four of them.
        Check.due("three for four full ones", 0, Make.loaded("G22aaaa/aa/aa/aa").fillings());
        Check.due("four for four full ones", 24, Make.loaded("G22aaaa/aa/aa/aa/aa").fillings());
        String pairs = Make.grid(6, 6, ".", c -> c % 2 == 1, c -> c / 6 % 2 == 1);
        Check.due("eight for 36", 0, Make.loaded(pairs + "/aa".repeat(8)).fillings());
        String nine = Make.grid(3, 6, ".", c -> c % 2 == 1, ALL);
        Check.due("nine entries", 9, Make.loaded(nine).about(2));
        Check.due("eight for nine", 0, Make.loaded(nine + "/aa".repeat(8)).fillings());
    }

    // "1 if there are no entries"
    private static void fillingsWithoutEntries() {
        for (int words = 0; words <= 8; words++) {
            Check.due("walls, " + words + " words", 1, Make.loaded(Make.WALLS + "/ab".repeat(words)).fillings());
        }
        Check.due("letters within walls", 1, Make.loaded("G22a|_b_c|d").fillings());
        Check.due("large walls", 1, Make.loaded(Make.grid(6, 6, ".", ALL, ALL)).fillings());
    }

    // "each entry (also one without empty cells) can be given a word that it fits"
    private static void fillingsOfFullEntries() {
        Check.due("full", 1, Make.loaded("G22abcd/ab/cd/ac/bd").fillings());
        Check.due("full, one is no word", 0, Make.loaded("G22abce/ab/cd/ac/bd").fillings());
        Check.due("full, a word too many", 1, Make.loaded("G22abcd/ab/cd/ac/bd/zz").fillings());
        Check.due("one row is full", 2, Make.loaded("G22a_b_../ab/cd/ef").fillings());
        Check.due("one row is full and no word", 0, Make.loaded("G22z_z_../ab/cd/ef").fillings());
    }

    // "no word (by its number) given twice"
    private static void fillingsNoWordTwice() {
        Check.due("one word for two rows", 0, Make.loaded("G22._._../ab").fillings());
        Check.due("one word that both need", 0, Make.loaded("G22a_b_ab/ab/cd").fillings());
        Check.due("the same letters twice", 2, Make.loaded("G22a_b_ab/ab/ab").fillings());
        Check.due("the same letters thrice", 6, Make.loaded("G22._._../ab/ab/ab").fillings());
        Check.due("the same letters eight times", 56, Make.loaded("G22._._.." + "/ab".repeat(8)).fillings());
    }

    // "so that cells in two entries get the same letter by both"
    private static void fillingsSameLetter() {
        Check.due("a square", 2, Make.loaded("G22..../ab/cd/ac/bd").fillings());
        Check.due("its last letter is another", 0, Make.loaded("G22..../ab/cd/ac/be").fillings());
        Check.due("its first letter is another", 0, Make.loaded("G22..../ab/cd/xc/bd").fillings());
        // A row of six over a column at its end, and one at its beginning.
        String end = Make.grid(6, 6, ".", c -> c >= 6, c -> c % 6 != 5);
        Check.due("crossing at the end", 2, Make.loaded(end + "/abcdef/fghijk/abcdef").fillings());
        Check.due("crossing wrongly at the end", 0, Make.loaded(end + "/abcdef/ghijkl").fillings());
        String middle = Make.grid(6, 6, ".", c -> c / 6 != 3, c -> c % 6 != 2);
        Check.due("crossing in the middle", 1, Make.loaded(middle + "/abcdef/xyzcba").fillings());
        Check.due("crossing wrongly in the middle", 0, Make.loaded(middle + "/abcdef/xycdba").fillings());
        // With a letter that the entry does not fit.
        Check.due("a letter against it", 0, Make.loaded("G22z.../ab/cd/ac/bd").fillings());
    }

    /** One entry across and one down, which begin at the rim or behind bars and cross in each of the cells. */
    private static void fillingsAtEachCrossing() {
        for (int row = 0; row < 6; row++) {
            for (int column = 0; column < 6; column++) {
                for (int left = 0; left <= column && left <= 4; left++) {
                    for (int top = 0; top <= row && top <= 4; top++) {
                        crossing(row, column, left, top);
                    }
                }
            }
        }
    }

    private static void crossing(int row, int column, int left, int top) {
        String grid = Make.grid(6, 6, ".", c -> c / 6 != row || c % 6 < left, c -> c % 6 != column || c / 6 < top);
        String across = "abcdef".substring(left);
        String down = Make.with("z".repeat(6 - top), row - top, across.charAt(column - left));
        // Of equal length, they can change places if they cross in the same letter of both.
        int ways = left == top && row == column ? 2 : 1;
        String what = "crossing in row " + row + ", column " + column + ", from " + left + " and " + top;
        Check.due(what, ways, Make.loaded(grid + "/" + across + "/" + down).fillings());
        Check.due(what + ", the other word first", ways, Make.loaded(grid + "/" + down + "/" + across).fillings());
        String wrong = Make.with(down, row - top, 'y');
        Check.due(what + ", with another letter", 0, Make.loaded(grid + "/" + across + "/" + wrong).fillings());
    }

    private static void fillingsMost() {
        // Eight entries of two cells that do not cross, and eight words.
        String eight = Make.grid(4, 4, ".", c -> c % 4 == 1, ALL);
        Check.due("entries", 8, Make.loaded(eight).about(2));
        Check.due("eight for eight", 40320, Make.loaded(eight + "/aa".repeat(8)).fillings());
        Check.due("seven for eight", 0, Make.loaded(eight + "/aa".repeat(7)).fillings());
    }

    // ---- promise 23

    // "NONE if there is none."
    private static void mendOfNone() {
        for (int rows = 2; rows <= 6; rows++) {
            for (int columns = 2; columns <= 6; columns++) {
                Check.due("no bars, no rule broken", NONE, Make.loaded(Make.open(rows, columns, ".")).mend());
            }
        }
        Check.due("rules broken that no one bar mends", NONE, Make.loaded(Make.rows(6, 6, ".")).mend());
        Check.due("walls", NONE, Make.loaded(Make.grid(3, 3, ".", ALL, ALL)).mend());
    }

    // "would leave the fewest rules broken, fewer than now, among several such places the smallest number"
    private static void mendFewestAndSmallest() {
        for (int rows = 2; rows <= 6; rows++) {
            for (int columns = 2; columns <= 6; columns++) {
                for (int c = 0; c < rows * columns; c++) {
                    mendOneBar(rows, columns, c, false, c % columns < columns - 1);
                    mendOneBar(rows, columns, c, true, c / columns < rows - 1);
                }
            }
        }
        mendLikeTheFace(Make.WALLS);
        mendLikeTheFace(Make.LARGER);
        mendLikeTheFace("G22.|_...");
        mendLikeTheFace("G22.._.|.");
        mendLikeTheFace(Make.grid(3, 6, ".", c -> c % 5 == 0, c -> c % 4 == 1));
        mendLikeTheFace(Make.grid(4, 4, ".", c -> c == 5 || c == 9, c -> c == 2 || c == 9));
        mendLikeTheFace(Make.grid(5, 3, ".", c -> c == 0, c -> c == 0));
    }

    private static void mendOneBar(int rows, int columns, int c, boolean below, boolean isPlace) {
        if (isPlace) {
            mendLikeTheFace(Make.grid(rows, columns, ".", d -> !below && d == c, d -> below && d == c));
        }
    }

    /** What setBar and rule say of each place, one after the other. */
    private static void mendLikeTheFace(String signs) {
        BarredGrid first = Make.loaded(signs);
        int fewest = broken(first);
        int best = NONE;
        for (int place = 0; place < 2 * first.about(0) * first.about(1); place++) {
            BarredGrid x = Make.loaded(signs);
            boolean below = place % 2 == 1;
            try {
                x.setBar(place / 2, below, x.cell(place / 2, below ? 2 : 1) == 0);
            } catch (IllegalArgumentException e) {
                continue;
            }
            if (broken(x) < fewest) {
                fewest = broken(x);
                best = place;
            }
        }
        Check.due("mend of " + signs, best, Make.loaded(signs).mend());
    }

    private static int broken(BarredGrid x) {
        int broken = 0;
        for (int k = 0; k <= 4; k++) {
            broken += x.rule(k) ? 0 : 1;
        }
        return broken;
    }

    // "of the place between two cells": the last ones, before the rim
    private static void mendAtTheLastPlaces() {
        // To draw the turned bar of the first one would part the cells, so the last one goes.
        Check.due("right of the last but one", 4, Make.loaded("G22...|.").mend());
        Check.due("below the last of the first row", 3, Make.loaded("G22.._..").mend());
        Check.due("right of the first", 0, Make.loaded("G22.|...").mend());
        Check.due("below the first", 1, Make.loaded("G22._...").mend());
    }

    // ---- promise 24

    // "NONE if there is none."
    private static void hardestOfNone() {
        Check.due("without entries", NONE, Make.loaded(Make.WALLS).hardest());
        Check.due("without empty cells", NONE, Make.loaded("G22abcd/ab").hardest());
        Check.due("without words and empty cells", NONE, Make.loaded("G22abcd").hardest());
        // The empty cell is lonely.
        Check.due("an empty lonely cell", NONE, Make.loaded("G22.|_abc").hardest());
        BarredGrid x = Make.loaded("G22abcd/ab");
        x.put(3, 0);
        Check.due("one with an empty cell", 2, x.hardest());
    }

    // "the one with the smallest fits(), among several the smallest"
    private static void hardestSmallest() {
        Check.due("all fit nothing", 0, new BarredGrid().hardest());
        for (int words = 0; words <= 8; words++) {
            Check.due("all fit " + words, 0, Make.loaded("G22...." + "/ab".repeat(words)).hardest());
        }
        // Five rows of the lengths 6, 5, 4, 3, 2; the cells behind them are lonely.
        IntPredicate right = c -> c / 6 > 0 && c % 6 >= 5 - c / 6;
        String lengths = Make.grid(5, 6, ".", right, ALL);
        Check.dueAll("lengths", new int[] {6, 5, 4, 3, 2}, e -> Make.loaded(lengths).entry(e, 2));
        Check.due("the last alone fits none", 4, Make.loaded(lengths + "/aaaaaa/aaaaa/aaaa/aaa").hardest());
        Check.due("the first alone fits none", 0, Make.loaded(lengths + "/aaaaa/aaaa/aaa/aa").hardest());
        Check.due("two fit none", 1, Make.loaded(lengths + "/aaaaaa/aaaa/aa").hardest());
        Check.due("one fits one, the others two", 3,
            Make.loaded(lengths + "/aaaaaa/aaaaaa/aaaaa/aaaaa/aaaa/aaaa/aaa/aa").hardest());
        // A full entry that fits none does not count, also if it is the first.
        Check.due("the first is full", 1, Make.loaded("G22z_z_../ab").hardest());
        Check.due("the last is full", 0, Make.loaded("G22._._zz/ab/ab").hardest());
    }

    // ---- promise 25

    // "if n is out of range, or if script is negative or has more than 5 * n digits"
    private static void scriptRefused() {
        for (int n : new int[] {-1, 0, 4, 5, NONE, LEAST, MOST}) {
            for (long script : new long[] {0, 80002, -1, Long.MIN_VALUE, Long.MAX_VALUE}) {
                Check.refused("runScript " + n + ", " + script, Check.ARGUMENT, () -> Make.busy("ab"), x -> x.runScript(n, script));
            }
        }
        long[] tooLong = {100000L, 10000000000L, 1000000000000000L};
        for (int n = 1; n <= 3; n++) {
            int count = n;
            for (long script : new long[] {-1, -99999, -80002, Long.MIN_VALUE, Long.MIN_VALUE + 1, Long.MAX_VALUE,
                tooLong[n - 1], tooLong[n - 1] + 1, tooLong[2], 4294967296L * 4294967295L}) {
                Check.refused("runScript " + n + ", " + script, Check.ARGUMENT, () -> Make.busy("ab"),
                    x -> x.runScript(count, script));
            }
            Check.due("the most digits", 0, Make.busy("ab").runScript(n, tooLong[n - 1] - 1));
            Check.due("the fewest digits", 0, Make.busy("ab").runScript(n, 0));
        }
    }

    // "the first command is the highest group of the number (with zeros before it, if it has fewer digits)"
    private static void scriptDigits() {
        BarredGrid x = new BarredGrid();
        Check.due("five digits", NONE, x.runScript(1, 10000));
        Check.due("four digits", 0, x.runScript(1, 9999));
        Check.due("ten digits", NONE, x.runScript(2, 1000050000L));
        Check.due("nine digits", 0, x.runScript(2, 999950000L));
        Check.due("five digits of ten", 0, x.runScript(2, 50000));
        Check.due("fifteen digits", NONE, x.runScript(3, 100005000050000L));
        Check.due("fourteen digits", 0, x.runScript(3, 10005000050000L));
        Check.due("ten digits of fifteen", 0, x.runScript(3, 5000050000L));
        Check.due("the last is zero", 1, x.runScript(2, 5000000000L));
        Check.due("the middle is zero", 1, x.runScript(3, 500000000050000L));
        Check.due("the last of three is zero", 2, x.runScript(3, 500005000000000L));
    }

    /** Each of the 100,000 groups does what the method of the face does. */
    private static void scriptCommandsOneByOne() {
        String[] grids = {"G22abc./ab/cd/ac/bd", "G33a|b.c._d..e/bx/cqd/axy/by/cdd=ae", Make.rows(2, 6, "a") + "/aaaaaa=a",
            Make.grid(6, 2, "z", ALL, NO) + "=z", Make.WALLS + "/ab=a", Make.open(6, 6, ".") + "/abcdef/fedcba"};
        for (String signs : grids) {
            BarredGrid x = null;
            BarredGrid face = null;
            for (int group = 0; group <= 99999; group++) {
                if (group % 100 == 0) {
                    x = Make.loaded(signs);
                    face = Make.loaded(signs);
                }
                Check.due("script " + group + " of " + signs, succeeds(face, group) ? NONE : 0, x.runScript(1, group));
            }
        }
    }

    /** At most three calls, of which the last one is an undo if the first was an action. */
    private static boolean succeeds(BarredGrid face, int group) {
        int front = group / 100 % 100;
        int back = group % 100;
        int d2 = front / 10;
        int d4 = back / 10;
        int d5 = back % 10;
        try {
            switch (group / 10000) {
                case 1:
                    face.put(front, back == 99 ? 0 : 97 + back);
                    break;
                case 2:
                    if (d4 > 1 || d5 > 1) {
                        return false;
                    }
                    face.setBar(front, d4 == 1, d5 == 1);
                    break;
                case 3:
                    if (d5 != 0) {
                        return false;
                    }
                    face.write(front, d4);
                    break;
                case 4:
                    if (back != 0) {
                        return false;
                    }
                    face.erase(front);
                    break;
                case 5: return front % 10 == 0 && back == 0 && face.rule(d2);
                case 6: return d2 == 0 && face.readings() >= group % 1000;
                case 7: return d4 == 0 && face.fits(front) >= d5;
                case 8: return d4 == 0 && face.cell(front, 5) == d5;
                case 9: return front == 0 && face.about(2) == back;
                default: return false;
            }
        } catch (IndexOutOfBoundsException | IllegalArgumentException | IllegalStateException e) {
            return false;
        }
        face.undo();
        return true;
    }

    // "and so does any other group (also one with another digit where a 0 is written)"
    private static void scriptOtherGroups() {
        BarredGrid x = Make.loaded("G33........./abc=a");
        int[] good = {30000, 40000, 50000, 60000, 70001, 80002, 90006};
        // The place values of the digits that are written as 0 in each of them.
        int[][] zeros = {{1}, {1, 10}, {1, 10, 100}, {1000}, {10}, {10}, {100, 1000}};
        for (int i = 0; i < good.length; i++) {
            Check.due("script " + good[i], NONE, x.runScript(1, good[i]));
            for (int value : zeros[i]) {
                for (int digit = 1; digit <= 9; digit++) {
                    Check.due("script " + (good[i] + digit * value), 0, x.runScript(1, good[i] + digit * value));
                }
            }
        }
    }

    // "succeeds if there are at least xxx readings"
    private static void scriptNumberOfReadings() {
        BarredGrid none = Make.loaded(Make.rows(6, 6, "a"));
        Check.due("at least none", NONE, none.runScript(1, 60000));
        Check.due("at least one", 0, none.runScript(1, 60001));
        int[] counts = {36, 160, 664};
        for (int length = 1; length <= 3; length++) {
            BarredGrid x = Make.loaded(Make.rows(6, 6, "a") + "=" + "a".repeat(length));
            int count = counts[length - 1];
            Check.due("at least " + (count - 1), NONE, x.runScript(1, 60000 + count - 1));
            Check.due("at least " + count, NONE, x.runScript(1, 60000 + count));
            Check.due("at least " + (count + 1), 0, x.runScript(1, 60000 + count + 1));
        }
        BarredGrid most = Make.loaded(Make.rows(6, 6, "a") + "=aaaaaa");
        Check.due("at least 999 of many", NONE, most.runScript(1, 60999));
        Check.due("1000 is another group", 0, most.runScript(1, 61000));
    }

    private static void scriptOneAfterAnother() {
        BarredGrid x = Make.loaded("G22..../ab/cd/ac/bd=a");
        Check.due("a written letter keeps a word out", 1, x.runScript(2, 1000230000L));
        Check.due("a written letter lets a word in", NONE, x.runScript(2, 1000030000L));
        Check.due("emptied again", NONE, x.runScript(3, 100021009930000L));
        Check.due("a bar takes an entry away", 1, x.runScript(2, 2000190004L));
        Check.due("a bar drawn and taken away", NONE, x.runScript(3, 200012000090004L));
        Check.due("the last entry is gone", 1, x.runScript(2, 2000140300L));
        Check.due("a bar makes a reading", NONE, x.runScript(3, 200011000060001L));
        Check.due("no second reading", 2, x.runScript(3, 200011000060002L));
        Check.due("a word written, then erased", NONE, x.runScript(3, 300004000030010L));
        Check.due("a word written, then another one", 1, x.runScript(2, 3000030010L));
        Check.due("a word written, then one that it crosses", NONE, x.runScript(2, 3000030120L));
        Check.due("a word written, then one that it does not cross", 1, x.runScript(2, 3000030130L));
        Check.due("a word written makes a reading", NONE, x.runScript(3, 200113000060001L));
        Check.due("each script begins anew", NONE, x.runScript(1, 30010));
        Check.due("each script begins anew", NONE, x.runScript(1, 90004));
    }

    // "Returns the index, from 0, of the first command that fails; NONE if all succeed."
    private static void scriptStopsAtTheFirst() {
        long[] groups = {50000, 99999};
        BarredGrid x = new BarredGrid();
        for (int n = 1; n <= 3; n++) {
            for (int fails = 0; fails < 1 << n; fails++) {
                long script = 0;
                for (int k = 0; k < n; k++) {
                    script = script * 100000 + groups[fails >> k & 1];
                }
                Check.due("script " + script, fails == 0 ? NONE : Integer.numberOfTrailingZeros(fails), x.runScript(n, script));
            }
        }
    }

    // ---- promise 26

    // "Throws IllegalArgumentException if m is out of range"
    private static void simulateRefused() {
        for (int m : new int[] {-1, 0, 100, 101, NONE, LEAST, MOST}) {
            for (long seed : new long[] {0, -1, Long.MIN_VALUE, Long.MAX_VALUE}) {
                Check.refused("simulate " + seed + ", " + m, Check.ARGUMENT, () -> Make.busy("ab"), x -> x.simulate(seed, m));
            }
        }
    }

    // "m: number of rounds, 1 to 99"
    private static void simulateRounds() {
        for (int m = 1; m <= 99; m++) {
            likeTheFace(Make.LARGER, m * 7919L, m);
        }
        for (int rows = 2; rows <= 6; rows++) {
            for (int columns = 2; columns <= 6; columns++) {
                for (int m : new int[] {1, 2, 98, 99}) {
                    likeTheFace(Make.open(rows, columns, ".") + "=ab", 1000003L * rows + columns, m);
                    likeTheFace(Make.grid(rows, columns, "a", ALL, ALL) + "=c", 1000003L * columns - rows, m);
                }
            }
        }
    }

    // "(with long overflow)"; "seed: any long"
    private static void simulateSeeds() {
        long inverse = BigInteger.valueOf(6364136223846793005L).modInverse(BigInteger.ONE.shiftLeft(64)).longValue();
        long[] seeds = {0, 1, -1, 2, Long.MIN_VALUE, Long.MIN_VALUE + 1, Long.MAX_VALUE, Long.MAX_VALUE - 1, 1L << 32, -1L << 33,
            // After the first round x is 0, -1, the least and the greatest number.
            -1442695040888963407L * inverse, (-1 - 1442695040888963407L) * inverse,
            (Long.MIN_VALUE - 1442695040888963407L) * inverse, (Long.MAX_VALUE - 1442695040888963407L) * inverse};
        for (long seed : seeds) {
            for (int m : new int[] {1, 2, 3, 50, 99}) {
                likeTheFace("G33.........=ab", seed, m);
                likeTheFace(Make.LARGER, seed, m);
                likeTheFace(Make.rows(6, 6, "b") + "=abc", seed, m);
            }
        }
    }

    /** The same rounds by put and setBar, with x as a number without an end that is cut off afterwards. */
    private static void likeTheFace(String signs, long seed, int m) {
        BigInteger all = BigInteger.ONE.shiftLeft(64);
        BarredGrid face = Make.loaded(signs);
        int cells = face.about(0) * face.about(1);
        BigInteger x = BigInteger.valueOf(seed).mod(all);
        for (int round = 0; round < m; round++) {
            x = x.multiply(BigInteger.valueOf(6364136223846793005L)).add(BigInteger.valueOf(1442695040888963407L)).mod(all);
            int r = x.shiftRight(33).intValueExact();
            if (r % 2 == 0) {
                int place = r / 2 % (2 * cells);
                boolean below = place % 2 == 1;
                boolean is = face.cell(place / 2, below ? 2 : 1) == 1;
                try {
                    face.setBar(place / 2, below, !is);
                } catch (IllegalArgumentException e) {
                    // At the rim nothing is done.
                }
            } else {
                face.put(r / 2 % cells, 97 + r / 128 % 3);
            }
        }
        int want = 1000 * (5 - broken(face)) + 10 * face.about(2) + Math.min(9, face.readings());
        Check.due("simulate " + seed + ", " + m + " of " + signs, want, Make.loaded(signs).simulate(seed, m));
    }

    // "(the number of readings, or 9 if there are more)"
    private static void simulateReadings() {
        long inverse = BigInteger.valueOf(6364136223846793005L).modInverse(BigInteger.ONE.shiftLeft(64)).longValue();
        // r is 1: cell 0 gets the letter a.
        long seed = ((1L << 33) - 1442695040888963407L) * inverse;
        for (int readings = 1; readings <= 12; readings++) {
            String letters = "a".repeat(readings) + "z".repeat(12 - readings);
            BarredGrid x = Make.loaded(Make.rows(3, 4, letters) + "=a");
            Check.due("readings", readings, x.readings());
            Check.due("simulate with " + readings, 2030 + Math.min(9, readings), x.simulate(seed, 1));
        }
        Check.due("simulate with none", 2030, Make.loaded(Make.rows(3, 4, "z") + "=b").simulate(seed, 1));
        Check.due("simulate without a line", 2030, Make.loaded(Make.rows(3, 4, "z")).simulate(seed, 1));
    }

    // "1000 * (rules) + 10 * (entries)": at most 36 entries, which three digits hold.
    private static void simulateMostEntries() {
        long inverse = BigInteger.valueOf(6364136223846793005L).modInverse(BigInteger.ONE.shiftLeft(64)).longValue();
        long seed = ((1L << 33) - 1442695040888963407L) * inverse;
        String pairs = Make.grid(6, 6, ".", c -> c % 2 == 1, c -> c / 6 % 2 == 1);
        Check.due("36 entries", 4360, Make.loaded(pairs).simulate(seed, 1));
        Check.due("no entries", 3000, Make.loaded(Make.WALLS + "=a").simulate(seed, 1));
        Check.due("all rules", 5060, new BarredGrid().simulate(seed, 1));
    }

    // "these and all following methods up to the save slots change nothing"
    private static void theyChangeNothing() {
        String rows = Make.rows(3, 4, "a.") + "/aaaa=ab";
        Check.CallOn[] calls = {BarredGrid::possible, BarredGrid::fillings, BarredGrid::mend, BarredGrid::hardest,
            x -> x.runScript(3, 100252000130000L), x -> x.runScript(3, 400004010040200L), x -> x.runScript(2, 1000099999L),
            x -> x.runScript(1, 10000), x -> x.simulate(5, 99), x -> x.simulate(-5, 1)};
        for (int i = 0; i < calls.length; i++) {
            Check.changesNothing("call " + i + " on a new one", BarredGrid::new, calls[i]);
            Check.changesNothing("call " + i, () -> Make.busy("ab"), calls[i]);
            Check.changesNothing("call " + i + " on rows", () -> Make.busyIn(rows, "G22...."), calls[i]);
        }
    }

    /** The rows that the calls use again hold nothing of the last one. */
    private static void sameAnswerAgain() {
        BarredGrid x = Make.loaded("G22..../ab/cd/ac/bd");
        BarredGrid rows = Make.loaded(Make.rows(3, 3, "a") + "=aa");
        for (int i = 0; i < 3; i++) {
            Check.due("fillings", 2, x.fillings());
            Check.due("fillings of rows", 0, rows.fillings());
            Check.due("possible", 16, rows.possible());
            Check.due("readings", 16, rows.readings());
            Check.dueAll("reading", new int[] {0, 5, NONE}, rows::reading);
            Check.due("mend", NONE, x.mend());
            Check.due("hardest", 0, x.hardest());
            Check.due("runScript", 1, x.runScript(2, 3000030010L));
            Check.due("simulate", Make.loaded("G22..../ab/cd/ac/bd").simulate(7, 99), x.simulate(7, 99));
        }
        x.put(0, 'b');
        Check.due("fillings then", 0, x.fillings());
        x.undo();
        Check.due("fillings again", 2, x.fillings());
    }
}
