import java.lang.reflect.Method;
import java.lang.reflect.Modifier;
import java.math.BigInteger;

/** Answers to small cases, worked out by hand from the document, promise by promise. */
public final class PromisesTest {
    private static final int NONE = -9;

    /*
     * a|b .      entries: 0 down 0 3 6; 1 across 1 2; 2 down 1 4;
     * c . d      3 down 2 5 8; 4 across 3 4 5; 5 across 6 7 8
     *   -        unchecked: 0 and 7
     * . . e
     */
    private static final String SMALL = "G33a|b.c._d..e/bx/cqd/axy/by/cdd=ae";

    // 0 across 0 1; 1 down 0 2; 2 down 1 3; 3 across 2 3
    private static final String SQUARE = "G22..../ab/cd/ac/bd";

    // Rows alone, so that every cell is unchecked.
    private static final String ROWS = "G33a_._._._._b_.b.=ab";

    public static void main(String[] args) throws Exception {
        face();
        newObject();
        append();
        clearText();
        errorPosition();
        load();
        about();
        cell();
        entry();
        word();
        fits();
        rule();
        readings();
        reading();
        put();
        setBar();
        addWord();
        setLine();
        write();
        erase();
        undo();
        possible();
        fillings();
        mend();
        hardest();
        runScript();
        simulate();
        save();
        restore();
        Check.end();
    }

    // ---- helpers

    private static int typedError(String signs) {
        BarredGrid x = new BarredGrid();
        Make.type(x, signs);
        return x.errorPosition();
    }

    /** All that the methods of the section "what there is" tell, as one text. */
    private static String shown(BarredGrid x) {
        StringBuilder all = new StringBuilder();
        for (int what = 0; what <= 10; what++) {
            all.append(x.about(what)).append(' ');
        }
        for (int c = 0; c < x.about(0) * x.about(1); c++) {
            all.append(x.cell(c, 0)).append(',').append(x.cell(c, 1)).append(',').append(x.cell(c, 2)).append(' ');
        }
        for (int w = 0; w < x.about(8); w++) {
            for (int i = 0; i < 6; i++) {
                all.append(x.word(w, i)).append(' ');
            }
        }
        return all.append(x.readings()).append(' ').append(x.possible()).toString();
    }

    // ---- the face

    private static void face() {
        int methods = 0;
        for (Method m : BarredGrid.class.getDeclaredMethods()) {
            if (m.isSynthetic()) {
                continue;
            }
            boolean isPublic = Modifier.isPublic(m.getModifiers());
            Check.due(m.getName() + " is public or private", true, isPublic || Modifier.isPrivate(m.getModifiers()));
            methods += isPublic ? 1 : 0;
        }
        Check.due("public methods", 27, methods);
        Check.due("public constructors", 1, BarredGrid.class.getConstructors().length);
        Check.due("public fields", 1, BarredGrid.class.getFields().length);
        Check.due("final", true, Modifier.isFinal(BarredGrid.class.getModifiers()));
        Check.due("NONE", -9, BarredGrid.NONE);
    }

    // ---- promise 1
    private static void newObject() {
        BarredGrid x = new BarredGrid();
        Check.dueAll("new about", new int[] {3, 3, 6, 3, 9, 0, 9, 0, 0, 0, 5}, x::about);
        Check.due("new readings", 0, x.readings());
        Check.due("new possible", 0, x.possible());
        Check.due("new text", 0, x.clearText());
        Check.throwsIt("new undo", Check.STATE, x::undo);
        Check.throwsIt("new restore 0", Check.STATE, () -> x.restore(0));
        Check.throwsIt("new restore 1", Check.STATE, () -> x.restore(1));
    }

    // ---- promise 2
    private static void append() {
        BarredGrid x = new BarredGrid();
        Check.throwsIt("append -1", Check.ARGUMENT, () -> x.append(-1));
        Check.throwsIt("append 256", Check.ARGUMENT, () -> x.append(256));
        Check.due("append 0", 1, x.append(0));
        Check.due("append 255", 2, x.append(255));
        for (int i = 3; i <= 150; i++) {
            Check.due("append", i, x.append('a'));
        }
        Check.throwsIt("append to 150", Check.STATE, () -> x.append('a'));
        Check.throwsIt("append 256 to 150", Check.ARGUMENT, () -> x.append(256));
        Check.throwsIt("append -1 to 150", Check.ARGUMENT, () -> x.append(-1));
        Check.due("length after throws", 150, x.clearText());
        Check.due("append after clear", 1, x.append('a'));
        Check.throwsIt("append is no action", Check.STATE, x::undo);
    }

    // ---- promise 3
    private static void clearText() {
        BarredGrid x = Make.loaded(SMALL);
        String before = shown(x);
        Check.due("clearText", SMALL.length(), x.clearText());
        Check.due("clearText again", 0, x.clearText());
        Check.due("clearText leaves the grid", true, before.equals(shown(x)));
        Check.due("empty text", 0, x.errorPosition());
        Check.throwsIt("clearText is no action", Check.STATE, x::undo);
    }

    // ---- promise 4
    private static void errorPosition() {
        String[] good = {"G22....", "G22.|_._.|.", "G22..../ab", "G22..../abcdef", "G22....=a", "G22....=abcdef",
            "G22....=a/ab", "G22..../ab=a/cd", "G22..../ab/ab/ab/ab/ab/ab/ab/ab", "G22..../ab/ab/ab/ab=z/ab/ab/ab/ab",
            "G22azaz", "G66" + ".".repeat(36), "G26" + ".".repeat(12), "G62" + ".".repeat(12), SMALL, SQUARE, ROWS};
        for (String signs : good) {
            Check.due(signs, NONE, typedError(signs));
        }
        wrongAt(0, "", "g", "2", " G22....", "\u00c7");
        wrongAt(1, "G", "G1", "G7", "G.", "Ga", "G0");
        wrongAt(2, "G2", "G21", "G27", "G2.", "G6x");
        wrongAt(3, "G22", "G22|", "G22_", "G22/ab", "G22A", "G22{", "G22`");
        wrongAt(5, "G22..", "G22..|", "G22._|", "G22.__", "G22.||", "G22..A", "G22../ab", "G22.|", "G22._", "G22.. ");
        wrongAt(6, "G22...", "G22..._", "G22..._.");
        wrongAt(7, "G22.....", "G22....|", "G22...._", "G22....a", "G22....A", "G22.... ", "G22....G");
        wrongAt(8, "G22..../", "G22....=", "G22....//", "G22..../=", "G22....==", "G22..../A", "G22....=.", "G22..../ ab");
        wrongAt(9, "G22..../a", "G22..../a/", "G22..../a=", "G22..../a/ab", "G22....=a=", "G22....=a=b", "G22....=a.");
        wrongAt(10, "G22..../ab.", "G22..../ab ", "G22....=ab|");
        wrongAt(14, "G22..../abcdefg", "G22....=abcdefg");
        wrongAt(31, "G22..../ab/ab/ab/ab/ab/ab/ab/ab/", "G22..../ab/ab/ab/ab/ab/ab/ab/ab/ab");
        wrongAt(33, "G22..../ab/ab/ab/ab/ab=a/ab/ab/ab/ab", "G22..../ab/ab/ab/ab/ab=a/ab/ab/ab=");
        wrongAt(12, "G22....=a/ab=a");
        wrongAt(38, "G66" + ".".repeat(35), "G66" + ".".repeat(35) + "_");
    }

    private static void wrongAt(int want, String... texts) {
        for (String signs : texts) {
            Check.due(signs, want, typedError(signs));
        }
    }

    // ---- promise 5
    private static void load() {
        BarredGrid x = new BarredGrid();
        Check.throwsIt("load of nothing", Check.STATE, x::load);
        Make.type(x, SMALL);
        x.put(0, 'z');
        x.save(0);
        x.save(1);
        Check.due("load", 9, x.load());
        Check.due("load keeps the text", NONE, x.errorPosition());
        Check.throwsIt("load forgets the actions", Check.STATE, x::undo);
        Check.throwsIt("load empties slot 0", Check.STATE, () -> x.restore(0));
        Check.throwsIt("load empties slot 1", Check.STATE, () -> x.restore(1));
        Check.due("words", 5, x.about(8));
        Check.due("letters of the line", 2, x.about(9));
        String before = shown(x);
        x.save(1);
        x.put(0, 'a');
        Make.type(x, "G22...");
        Check.throwsIt("load of no grid", Check.STATE, x::load);
        Check.due("a load that throws changes nothing", true, before.equals(shown(x)));
        Check.due("nor the actions", 0, x.undo());
        Check.due("nor the slots", 6, x.restore(1));
        Make.type(x, "G26a|.....zxcvbn");
        Check.due("load 2 6", 12, x.load());
        Check.dueAll("about 2 6", new int[] {2, 6, 8, 2, 11, 1, 5, 1, 0, 0, 7}, x::about);
        Make.type(x, "G62............");
        Check.due("load 6 2", 12, x.load());
        Check.due("rows", 6, x.about(0));
        Check.due("empty cells", 12, x.about(6));
        Check.due("length after load", 15, x.clearText());
    }

    // ---- promise 6
    private static void about() {
        Check.dueAll("about", new int[] {3, 3, 6, 3, 7, 2, 4, 2, 5, 2, 5}, Make.loaded(SMALL)::about);
        Check.dueAll("about without entries", new int[] {2, 2, 0, 0, 0, 0, 4, 4, 0, 0, 0}, Make.loaded("G22.|_._.|.")::about);
        BarredGrid x = Make.loaded(SMALL);
        Check.throwsIt("about -1", Check.ARGUMENT, () -> x.about(-1));
        Check.throwsIt("about 11", Check.ARGUMENT, () -> x.about(11));
    }

    // ---- promise 7
    private static void cell() {
        BarredGrid x = Make.loaded(SMALL);
        Check.dueAll("letter", new int[] {'a', 'b', 0, 'c', 0, 'd', 0, 0, 'e'}, c -> x.cell(c, 0));
        Check.dueAll("bar to the right", new int[] {1, 0, 0, 0, 0, 0, 0, 0, 0}, c -> x.cell(c, 1));
        Check.dueAll("bar below", new int[] {0, 0, 0, 0, 1, 0, 0, 0, 0}, c -> x.cell(c, 2));
        Check.dueAll("across", new int[] {NONE, 1, 1, 4, 4, 4, 5, 5, 5}, c -> x.cell(c, 3));
        Check.dueAll("down", new int[] {0, 2, 3, 0, 2, 3, 0, NONE, 3}, c -> x.cell(c, 4));
        Check.dueAll("in entries", new int[] {1, 2, 2, 2, 2, 2, 2, 1, 2}, c -> x.cell(c, 5));
        Check.dueAll("clue", new int[] {1, 2, 3, 4, NONE, NONE, 5, NONE, NONE}, c -> x.cell(c, 6));
        Check.due("lonely", 0, Make.loaded("G22.|_._.|.").cell(3, 5));
        Check.throwsIt("cell -1", Check.INDEX, () -> x.cell(-1, 0));
        Check.throwsIt("cell 9", Check.INDEX, () -> x.cell(9, 0));
        Check.throwsIt("cell 9, 7", Check.INDEX, () -> x.cell(9, 7));
        Check.throwsIt("cell, -1", Check.ARGUMENT, () -> x.cell(0, -1));
        Check.throwsIt("cell, 7", Check.ARGUMENT, () -> x.cell(8, 7));
    }

    // ---- promise 8
    private static void entry() {
        BarredGrid x = Make.loaded(SMALL);
        Check.dueAll("first", new int[] {0, 1, 1, 2, 3, 6}, e -> x.entry(e, 0));
        Check.dueAll("direction", new int[] {1, 0, 1, 1, 0, 0}, e -> x.entry(e, 1));
        Check.dueAll("cells", new int[] {3, 2, 2, 3, 3, 3}, e -> x.entry(e, 2));
        Check.dueAll("unchecked", new int[] {1, 0, 0, 0, 0, 1}, e -> x.entry(e, 3));
        Check.dueAll("empty", new int[] {1, 1, 1, 1, 1, 2}, e -> x.entry(e, 4));
        Check.dueAll("clue of entry", new int[] {1, 2, 2, 3, 4, 5}, e -> x.entry(e, 5));
        Check.dueAll("word of entry", new int[] {NONE, NONE, NONE, NONE, NONE, NONE}, e -> x.entry(e, 6));
        BarredGrid full = Make.loaded("G22abcd/cd/bd/ab/ab");
        Check.dueAll("word of full entry", new int[] {2, NONE, 1, 0}, e -> full.entry(e, 6));
        Check.throwsIt("entry -1", Check.INDEX, () -> x.entry(-1, 0));
        Check.throwsIt("entry 6", Check.INDEX, () -> x.entry(6, 0));
        Check.throwsIt("entry 6, 7", Check.INDEX, () -> x.entry(6, 7));
        Check.throwsIt("entry, -1", Check.ARGUMENT, () -> x.entry(0, -1));
        Check.throwsIt("entry, 7", Check.ARGUMENT, () -> x.entry(5, 7));
    }

    // ---- promise 9
    private static void word() {
        BarredGrid x = Make.loaded("G22..../ab/uvwxyz");
        Check.dueAll("word 0", new int[] {'a', 'b', NONE, NONE, NONE, NONE, NONE}, i -> x.word(0, i));
        Check.dueAll("word 1", new int[] {'u', 'v', 'w', 'x', 'y', 'z', NONE}, i -> x.word(1, i));
        Check.due("far letter", NONE, x.word(0, Integer.MAX_VALUE));
        Check.throwsIt("word -1", Check.INDEX, () -> x.word(-1, 0));
        Check.throwsIt("word 2", Check.INDEX, () -> x.word(2, 0));
        Check.throwsIt("word 2, -1", Check.INDEX, () -> x.word(2, -1));
        Check.throwsIt("word, -1", Check.ARGUMENT, () -> x.word(0, -1));
        Check.throwsIt("word of none", Check.INDEX, () -> new BarredGrid().word(0, 0));
    }

    // ---- promise 10
    private static void fits() {
        BarredGrid x = Make.loaded(SMALL);
        // bx cqd axy by cdd against ac. b. b. .d. (down 2 5 8: .de) c.d ..e
        Check.dueAll("fits", new int[] {0, 2, 2, 0, 2, 0}, x::fits);
        BarredGrid full = Make.loaded("G22abcd/ab/ab/ba/abc");
        Check.dueAll("fits of full entries", new int[] {2, 0, 0, 0}, full::fits);
        Check.throwsIt("fits -1", Check.INDEX, () -> x.fits(-1));
        Check.throwsIt("fits 6", Check.INDEX, () -> x.fits(6));
    }

    // ---- promise 11
    private static void rule() {
        dueRules("G33.........", "11111");
        dueRules(SMALL, "01111");
        // Bars to the right of 0 and of 7 are turned into each other.
        dueRules("G33.|.......|.", "11111");
        // Bars below 1 and below 4 are, too.
        dueRules("G33.._..._....", "11111");
        // A bar in the middle of a grid of 2 columns and 3 rows is its own turned one.
        dueRules("G32...|...", "11111");
        dueRules("G22.|_._.|.", "10110");
        // As many unchecked cells as checked ones are not too many.
        dueRules("G22._...", "01111");
        // Rows alone: all cells are unchecked, and no row reaches another one.
        dueRules(ROWS, "11000");
        // The last column is cut off, and no cell of it is checked.
        dueRules("G33..|...|...|.", "01000");
        // In the first row 0 and 2 are unchecked: more than the checked ones, but no pair.
        dueRules("G33._.._......", "01011");
        // In both rows the first two are unchecked: a pair, but not more than the checked ones.
        dueRules("G24._._......", "01101");
        BarredGrid x = new BarredGrid();
        Check.throwsIt("rule -1", Check.ARGUMENT, () -> x.rule(-1) ? 1 : 0);
        Check.throwsIt("rule 5", Check.ARGUMENT, () -> x.rule(5) ? 1 : 0);
    }

    private static void dueRules(String grid, String want) {
        BarredGrid x = Make.loaded(grid);
        for (int k = 0; k < 5; k++) {
            Check.due("rule " + k + " of " + grid, want.charAt(k) == '1', x.rule(k));
        }
    }

    // ---- promise 12
    private static void readings() {
        Check.due("readings", 2, Make.loaded(ROWS).readings());
        Check.due("readings without a line", 0, Make.loaded("G33a_._._._._b_.b.").readings());
        // In an open grid all cells are checked.
        Check.due("readings of checked cells", 0, Make.loaded("G33a....b.b.=ab").readings());
        Check.due("readings of one letter", 2, Make.loaded("G33a_._._._._b_.b.=b").readings());
        // Around the knight's round 0 5 6 1 8 3 2 7 of equal letters, both ways from each cell.
        Check.due("readings around", 16, Make.loaded("G33a_a_a_a_a_a_aaa=aaaaaa").readings());
        // A cell is not read twice: 0 5 0 would be a way back.
        Check.due("readings there and back", 0, Make.loaded("G33a_._._._._b_...=aba").readings());
        // Lonely cells are not unchecked.
        Check.due("readings of lonely cells", 0, Make.loaded("G22a|_a_a|a=a").readings());
    }

    // ---- promise 13
    private static void reading() {
        BarredGrid x = Make.loaded(ROWS);
        Check.dueAll("reading", new int[] {0, 5, NONE, NONE, NONE, NONE, NONE}, x::reading);
        Check.due("reading far", NONE, x.reading(Integer.MAX_VALUE));
        Check.throwsIt("reading -1", Check.ARGUMENT, () -> x.reading(-1));
        Check.throwsIt("reading -1 of none", Check.ARGUMENT, () -> new BarredGrid().reading(-1));
        Check.due("reading of none", NONE, new BarredGrid().reading(0));
        BarredGrid all = Make.loaded("G33a_a_a_a_a_a_aaa=aaaaaa");
        Check.dueAll("reading around", new int[] {0, 5, 6, 1, 8, 3, NONE}, all::reading);
        // 5 comes before 7, but only 7 goes on.
        BarredGrid on = Make.loaded("G33a_._c_._._b_.b.=abc");
        Check.dueAll("reading that goes on", new int[] {0, 7, 2, NONE}, on::reading);
    }

    // ---- promise 14
    private static void put() {
        BarredGrid x = new BarredGrid();
        Check.due("put a", 0, x.put(0, 'a'));
        Check.due("put z", 'a', x.put(0, 'z'));
        Check.due("put 0", 'z', x.put(0, 0));
        Check.due("put 0 again", 0, x.put(0, 0));
        Check.due("put last", 0, x.put(8, 'q'));
        Check.due("it stands", 'q', x.cell(8, 0));
        Check.throwsIt("put -1", Check.INDEX, () -> x.put(-1, 'a'));
        Check.throwsIt("put 9", Check.INDEX, () -> x.put(9, 'a'));
        Check.throwsIt("put 9, 1", Check.INDEX, () -> x.put(9, 1));
        for (int letter : new int[] {-1, 1, 46, 65, 96, 123, 353}) {
            Check.throwsIt("put " + letter, Check.ARGUMENT, () -> x.put(0, letter));
        }
        Check.due("five actions", 4, x.undo());
    }

    // ---- promise 15
    private static void setBar() {
        BarredGrid x = new BarredGrid();
        Check.due("bar right of 0", 6, x.setBar(0, false, true));
        Check.due("bar right of 1", 5, x.setBar(1, false, true));
        Check.due("again", 5, x.setBar(1, false, true));
        Check.due("bar below 1", 5, x.setBar(1, true, true));
        Check.due("bar below 4", 4, x.setBar(4, true, true));
        Check.due("bars", 4, x.about(7));
        Check.due("taken away", 5, x.setBar(4, true, false));
        Check.due("none there", 5, x.setBar(7, false, false));
        Check.due("it is gone", 0, x.cell(4, 2));
        Check.due("it stands", 1, x.cell(1, 2));
        Check.due("actions", 6, x.undo());
        Check.throwsIt("bar -1", Check.INDEX, () -> x.setBar(-1, true, true));
        Check.throwsIt("bar 9", Check.INDEX, () -> x.setBar(9, false, true));
        Check.throwsIt("bar right of 2", Check.ARGUMENT, () -> x.setBar(2, false, true));
        Check.throwsIt("bar right of 8", Check.ARGUMENT, () -> x.setBar(8, false, false));
        Check.throwsIt("bar below 6", Check.ARGUMENT, () -> x.setBar(6, true, true));
        Check.throwsIt("bar below 8", Check.ARGUMENT, () -> x.setBar(8, true, false));
        Check.due("throws are no actions", 5, x.undo());
    }

    // ---- promise 16
    private static void addWord() {
        BarredGrid x = new BarredGrid();
        for (String bad : new String[] {"", "a", "abcdefg", "aB", "a.", "/ab", "a{", "`a"}) {
            Make.type(x, bad);
            Check.throwsIt("addWord " + bad, Check.STATE, x::addWord);
        }
        Make.type(x, "ab");
        Check.due("addWord 0", 0, x.addWord());
        Make.type(x, "uvwxyz");
        Check.due("addWord 1", 1, x.addWord());
        Check.dueAll("its letters", new int[] {'u', 'v', 'w', 'x', 'y', 'z', NONE}, i -> x.word(1, i));
        for (int w = 2; w < 8; w++) {
            Check.due("addWord", w, x.addWord());
        }
        Check.throwsIt("ninth word", Check.STATE, x::addWord);
        Check.due("words", 8, x.about(8));
        Check.due("actions", 7, x.undo());
        Check.due("words after undo", 7, x.about(8));
        Make.type(x, "cde");
        Check.due("addWord again", 7, x.addWord());
        Check.dueAll("letters again", new int[] {'c', 'd', 'e', NONE}, i -> x.word(7, i));
    }

    // ---- promise 17
    private static void setLine() {
        BarredGrid x = Make.loaded("G33a_._._._._b_.b.");
        for (String bad : new String[] {"", "abcdefg", "A", "a.", "=a", "a{"}) {
            Make.type(x, bad);
            Check.throwsIt("setLine " + bad, Check.STATE, x::setLine);
        }
        Make.type(x, "abcdef");
        Check.due("setLine of 6", 6, x.setLine());
        Make.type(x, "ab");
        Check.due("setLine of 2", 2, x.setLine());
        Check.due("its readings", 2, x.readings());
        Make.type(x, "b");
        Check.due("setLine of 1", 1, x.setLine());
        Check.due("letters", 1, x.about(9));
        Check.due("undo setLine", 2, x.undo());
        Check.due("readings after undo", 2, x.readings());
        Check.due("undo both", 1, x.undo());
        Check.due("letters of the first", 6, x.about(9));
    }

    // ---- promise 18
    private static void write() {
        BarredGrid x = Make.loaded(SQUARE);
        Check.due("write ab across", 2, x.write(0, 0));
        Check.due("write ac down", 1, x.write(1, 2));
        Check.due("write ab again", 0, x.write(0, 0));
        Check.throwsIt("write ab over bd", Check.STATE, () -> x.write(2, 0));
        Check.due("write bd down", 1, x.write(2, 3));
        Check.dueAll("letters", new int[] {'a', 'b', 'c', 'd'}, c -> x.cell(c, 0));
        Check.due("it is cd", 1, x.entry(3, 6));
        Check.throwsIt("write -1", Check.INDEX, () -> x.write(-1, 0));
        Check.throwsIt("write 4", Check.INDEX, () -> x.write(4, 0));
        Check.throwsIt("write word -1", Check.INDEX, () -> x.write(0, -1));
        Check.throwsIt("write word 4", Check.INDEX, () -> x.write(0, 4));
        Check.due("actions", 3, x.undo());
        BarredGrid longer = Make.loaded("G23....../ab/abc");
        Check.throwsIt("write too short", Check.STATE, () -> longer.write(0, 0));
        Check.throwsIt("write too long", Check.STATE, () -> longer.write(1, 1));
        Check.due("write abc", 3, longer.write(0, 1));
    }

    // ---- promise 19
    private static void erase() {
        BarredGrid x = Make.loaded("G33abcd.ef.g");
        // Down the columns stand adf, b.. and ceg, so only the middle letter goes.
        Check.due("erase across", 1, x.erase(0));
        Check.dueAll("after it", new int[] {'a', 0, 'c', 'd', 0, 'e', 'f', 0, 'g'}, c -> x.cell(c, 0));
        // The columns are adf and ceg still, and across all rows have empty cells.
        Check.due("erase down", 3, x.erase(1));
        Check.dueAll("after this", new int[] {0, 0, 'c', 0, 0, 'e', 0, 0, 'g'}, c -> x.cell(c, 0));
        Check.due("erase the empty one", 0, x.erase(1));
        Check.due("erase the last column", 3, x.erase(3));
        Check.due("actions", 3, x.undo());
        BarredGrid rows = Make.loaded(ROWS);
        Check.due("erase unchecked cells", 1, rows.erase(0));
        BarredGrid full = Make.loaded("G22abcd");
        Check.due("erase among full ones", 0, full.erase(0));
        Check.throwsIt("erase -1", Check.INDEX, () -> x.erase(-1));
        Check.throwsIt("erase 6", Check.INDEX, () -> x.erase(6));
    }

    // ---- promise 20
    private static void undo() {
        BarredGrid x = Make.loaded(SQUARE);
        String first = shown(x);
        x.put(0, 'a');
        x.setBar(0, true, true);
        Make.type(x, "xy");
        x.addWord();
        x.setLine();
        x.setBar(0, true, false);
        x.write(0, 0);
        x.erase(0);
        for (int left = 6; left >= 0; left--) {
            Check.due("undo", left, x.undo());
        }
        Check.due("all is taken back", true, first.equals(shown(x)));
        Check.throwsIt("undo of nothing", Check.STATE, x::undo);
        Check.due("undo keeps the text", 2, x.clearText());
        for (int i = 0; i < 17; i++) {
            x.put(0, 'a' + i);
        }
        for (int left = 13; left >= 0; left--) {
            Check.due("undo of 17", left, x.undo());
            Check.due("letter then", 'a' + left + 2, x.cell(0, 0));
        }
        Check.throwsIt("undo of the forgotten", Check.STATE, x::undo);
        x.put(1, 'x');
        Check.due("undo after all", 0, x.undo());
        Check.due("entries after undo", 4, x.about(2));
    }

    // ---- promise 21
    private static void possible() {
        // 0-5 0-7 and ten more over empty cells of the round 0 5 6 1 8 3 2 7
        Check.due("possible", 12, Make.loaded(ROWS).possible());
        Check.due("possible without a line", 0, Make.loaded("G33a_._._._._b_.b.").possible());
        Check.due("possible without unchecked cells", 0, Make.loaded("G33.........=ab").possible());
        String rows = "._".repeat(30) + "......";
        Check.due("possible, one letter", 36, Make.loaded("G66" + rows + "=a").possible());
        Check.due("possible, two letters", 160, Make.loaded("G66" + rows + "=ab").possible());
        Check.due("possible, many", 9999, Make.loaded("G66" + rows + "=abcdef").possible());
        Check.due("possible, other letters", 0, Make.loaded("G22a_a_aa=b").possible());
    }

    // ---- promise 22
    private static void fillings() {
        Check.due("fillings", 2, Make.loaded(SQUARE).fillings());
        Check.due("fillings with a word twice", 4, Make.loaded(SQUARE + "/ab").fillings());
        Check.due("fillings with a letter", 1, Make.loaded("G22.b../ab/cd/ac/bd").fillings());
        Check.due("fillings of a full grid", 1, Make.loaded("G22abcd/ab/cd/ac/bd").fillings());
        Check.due("fillings of a wrong grid", 0, Make.loaded("G22abcx/ab/cd/ac/bd").fillings());
        Check.due("fillings with too few words", 0, Make.loaded("G22..../aa/aa/aa").fillings());
        Check.due("fillings with equal words", 24, Make.loaded("G22..../aa/aa/aa/aa").fillings());
        Check.due("fillings without entries", 1, Make.loaded("G22.|_._.|.").fillings());
        Check.due("fillings without entries, with words", 1, Make.loaded("G22.|_._.|./ab").fillings());
        Check.due("fillings without crossing", 12, Make.loaded("G22._._../aa/bb/cc/dd").fillings());
        Check.due("fillings, most", 40320, Make.loaded("G46" + "._._.|_._._._".repeat(3) + "...|..."
            + "/abc/abd/abe/abf/abg/abh/abi/abj").fillings());
    }

    // ---- promise 23
    private static void mend() {
        Check.due("mend of what is right", NONE, new BarredGrid().mend());
        // Taking the bar away is place 0, the turned one would be place 14.
        Check.due("mend 0", 0, Make.loaded("G33.|........").mend());
        // The turned one of the bar below 4 is the one below 1.
        Check.due("mend 3", 3, Make.loaded("G33....._....").mend());
        // The turned bar would keep rule 0, but part the columns.
        Check.due("mend 4", 4, Make.loaded("G22...|.").mend());
        Check.due("mend of two bars", NONE, Make.loaded(SMALL).mend());
        // Taking away either bar breaks rule 0, but joins the columns; the smaller place is 0.
        Check.due("mend of columns", 0, Make.loaded("G22.|..|.").mend());
        BarredGrid x = Make.loaded("G33.|........");
        String before = shown(x);
        x.mend();
        Check.due("mend changes nothing", true, before.equals(shown(x)));
        Check.throwsIt("mend is no action", Check.STATE, x::undo);
    }

    // ---- promise 24
    private static void hardest() {
        Check.due("hardest, all equal", 0, Make.loaded(SQUARE).hardest());
        Check.due("hardest with a letter", 0, Make.loaded("G22.b../ab/cd/ac/bd").hardest());
        // .. fits 4, .c and c. fit 1 and 1: entries 1 (0 2) and 3 (2 3).
        Check.due("hardest 1", 1, Make.loaded("G22..c./ab/cd/ac/bd").hardest());
        Check.due("hardest 2", 2, Make.loaded("G22ab../ab/cd/ac/bd/ad").hardest());
        Check.due("hardest, full", NONE, Make.loaded("G22abcd/ab").hardest());
        Check.due("hardest without entries", NONE, Make.loaded("G22.|_._.|.").hardest());
        Check.due("hardest with all words fitting", 0, Make.loaded("G22..../ab/ab/ab/ab/ab/ab/ab/ab").hardest());
        Check.due("hardest without words", 0, new BarredGrid().hardest());
        // The first row is full and fits nothing, but is not to be filled.
        Check.due("hardest that is not full", 1, Make.loaded("G22x_y_../ab").hardest());
    }

    // ---- promise 25
    private static void runScript() {
        BarredGrid x = Make.loaded(SQUARE);
        String before = shown(x);
        succeed(x, 10000, 10325, 10399, 20001, 20011, 20000, 20111, 30000, 30330, 40000, 40300, 50000, 54000,
            60000, 70004, 70300, 80002, 80302, 90004);
        fail(x, 0, 1, 9999, 10026, 10098, 10400, 19900, 20002, 20020, 20101, 20211, 22011, 23001, 30001, 30400, 34000, 30040,
            39900, 40001, 40010, 40400, 44000, 55000, 59000, 50100, 50010, 50001, 60001, 61000, 70005, 70010, 70014, 70400,
            80001, 80003, 80012, 80400, 84000, 84002, 90003, 90005, 91004, 90104);
        // 12 entries of 6 cells; 11 is the last row, which is the word, 1 the first column.
        BarredGrid large = Make.loaded("G66" + "abcdef".repeat(6) + "/abcdef");
        succeed(large, 13525, 13599, 23401, 22911, 31100, 41100, 71000, 71101, 83502, 90012, 60000);
        fail(large, 13625, 23501, 23011, 30100, 31200, 41200, 71200, 70101, 83602, 83501, 90011, 60001);
        BarredGrid many = Make.loaded("G66" + "a_".repeat(30) + "aaaaaa=aa");
        succeed(many, 60000, 60099, 60100, 60160);
        fail(many, 60161, 60200, 60999);
        Check.due("two", NONE, x.runScript(2, 3000080002L));
        Check.due("written, then another word", 1, x.runScript(2, 3000030020L));
        Check.due("written, then the same", NONE, x.runScript(2, 3000030000L));
        Check.due("written and erased", NONE, x.runScript(3, 300004000030010L));
        Check.due("the first fails", 0, x.runScript(3, 10000L));
        Check.due("the third fails", 2, x.runScript(3, 100001000100000L));
        Check.due("bars count entries", NONE, x.runScript(2, 2000190003L));
        Check.due("put fits", NONE, x.runScript(2, 1000070002L));
        Check.due("put fits no more", 1, x.runScript(2, 1000070003L));
        Check.due("leading zero group", 0, x.runScript(2, 80002L));
        Check.due("readings of a script", NONE, Make.loaded(ROWS).runScript(2, 6000210601L));
        Check.due("three readings", NONE, Make.loaded(ROWS).runScript(3, 600021060060003L));
        Check.due("no three readings", 0, Make.loaded(ROWS).runScript(1, 60003));
        Check.due("runScript changes nothing", true, before.equals(shown(x)));
        Check.throwsIt("runScript is no action", Check.STATE, x::undo);
        Check.throwsIt("n 0", Check.ARGUMENT, () -> x.runScript(0, 0));
        Check.throwsIt("n 4", Check.ARGUMENT, () -> x.runScript(4, 80002));
        Check.throwsIt("n huge", Check.ARGUMENT, () -> x.runScript(Integer.MAX_VALUE, 0));
        Check.throwsIt("n negative", Check.ARGUMENT, () -> x.runScript(-1, 0));
        Check.throwsIt("script negative", Check.ARGUMENT, () -> x.runScript(1, -1));
        Check.throwsIt("script least", Check.ARGUMENT, () -> x.runScript(3, Long.MIN_VALUE));
        Check.throwsIt("script of 6 digits", Check.ARGUMENT, () -> x.runScript(1, 100000));
        Check.throwsIt("script of 11 digits", Check.ARGUMENT, () -> x.runScript(2, 10000000000L));
        Check.throwsIt("script of 16 digits", Check.ARGUMENT, () -> x.runScript(3, 1000000000000000L));
        Check.throwsIt("script most", Check.ARGUMENT, () -> x.runScript(3, Long.MAX_VALUE));
        Check.due("script of 5 digits", 0, x.runScript(1, 99999));
        Check.due("script of 15 digits", 0, x.runScript(3, 999999999999999L));
    }

    private static void succeed(BarredGrid x, int... groups) {
        for (int group : groups) {
            Check.due("script " + group, NONE, x.runScript(1, group));
        }
    }

    private static void fail(BarredGrid x, int... groups) {
        for (int group : groups) {
            Check.due("script " + group, 0, x.runScript(1, group));
        }
    }

    // ---- promise 26
    private static void simulate() {
        BarredGrid x = new BarredGrid();
        String before = shown(x);
        // Place 0 gets a bar: rule 0 is broken, and the entries stay 6.
        Check.due("simulate a bar", 4060, x.simulate(seedFor(0), 1));
        // Place 4 (right of 2) and place 13 (below 6) are at the rim; place 18 is place 0.
        Check.due("simulate the rim", 5060, x.simulate(seedFor(8), 1));
        Check.due("simulate the rim below", 5060, x.simulate(seedFor(26), 1));
        Check.due("simulate place 18", 4060, x.simulate(seedFor(36), 1));
        Check.due("simulate a bar that goes", 5060, Make.loaded("G33.|........").simulate(seedFor(0), 1));
        // Cell 0 gets a, b or c.
        BarredGrid rows = Make.loaded("G33._._._._._._...=b");
        Check.due("simulate a", 2030, rows.simulate(seedFor(1), 1));
        Check.due("simulate b", 2031, rows.simulate(seedFor(129), 1));
        Check.due("simulate c", 2030, rows.simulate(seedFor(257), 1));
        Check.due("simulate b in the place of b", 2039, Make.loaded("G33b_b_b_b_b_b_bbb=b").simulate(seedFor(129), 1));
        Check.due("simulate c in the place of b", 2038, Make.loaded("G33b_b_b_b_b_b_bbb=b").simulate(seedFor(257), 1));
        Check.due("simulate with 12 readings", 2039, Make.loaded("G34b_b_b_b_b_b_b_b_bbbb=b").simulate(seedFor(129), 1));
        Check.due("simulate changes nothing", true, before.equals(shown(x)));
        Check.throwsIt("simulate is no action", Check.STATE, x::undo);
        Check.throwsIt("m 0", Check.ARGUMENT, () -> x.simulate(1, 0));
        Check.throwsIt("m 100", Check.ARGUMENT, () -> x.simulate(1, 100));
        Check.throwsIt("m -1", Check.ARGUMENT, () -> x.simulate(1, -1));
        // From one grid, in two calls of equal arguments.
        // The bar below 0 takes an entry away, the one to the right of 0 does not.
        Check.due("simulate a bar below", 4040, Make.loaded("G23......").simulate(seedFor(2), 1));
        Check.due("simulate a bar to the right", 4050, Make.loaded("G23......").simulate(seedFor(0), 1));
        // The bar below 2 is the turned one of that below 0; then two cells of each row are unchecked.
        Check.due("simulate the turned bar", 4030, Make.loaded("G23._.....").simulate(seedFor(10), 1));
        Check.due("simulate b in the place of c", 2039, Make.loaded("G33b_c_b_b_b_b_bbb=b").simulate(seedFor(129), 1));
        Check.due("simulate a again", 2031, Make.loaded("G33b_b_b_b_b_b_bbb=a").simulate(seedFor(385), 1));
        Check.due("m 99 again", x.simulate(Long.MIN_VALUE, 99), x.simulate(Long.MIN_VALUE, 99));
    }

    /** A seed for which the first round has this r. */
    private static long seedFor(int r) {
        BigInteger all = BigInteger.ONE.shiftLeft(64);
        BigInteger inverse = BigInteger.valueOf(6364136223846793005L).modInverse(all);
        long x = (long) r << 33;
        return (x - 1442695040888963407L) * inverse.longValue();
    }

    // ---- promise 27
    private static void save() {
        BarredGrid x = Make.loaded(SQUARE);
        Check.due("save 0", 4, x.save(0));
        x.setBar(0, false, true);
        Check.due("save 1", 3, x.save(1));
        Check.due("restore 0", 4, x.restore(0));
        Check.due("restore 1", 3, x.restore(1));
        x.put(0, 'a');
        Check.due("save 0 over it", 3, x.save(0));
        Check.due("save is no action", 0, x.undo());
        x.put(0, 'b');
        x.restore(0);
        Check.due("the saved letter", 'a', x.cell(0, 0));
        Check.throwsIt("save -1", Check.INDEX, () -> x.save(-1));
        Check.throwsIt("save 2", Check.INDEX, () -> x.save(2));
    }

    // ---- promise 28
    private static void restore() {
        BarredGrid x = Make.loaded(SMALL);
        String first = shown(x);
        Check.throwsIt("restore of nothing", Check.STATE, () -> x.restore(0));
        Check.throwsIt("restore -1", Check.INDEX, () -> x.restore(-1));
        Check.throwsIt("restore 2", Check.INDEX, () -> x.restore(2));
        x.save(1);
        Make.type(x, "xyz");
        x.addWord();
        x.setLine();
        x.put(0, 'q');
        x.setBar(3, true, true);
        Check.throwsIt("restore of the other", Check.STATE, () -> x.restore(0));
        Check.due("a throw keeps the actions", 3, x.undo());
        Check.due("restore", 6, x.restore(1));
        Check.due("all is restored", true, first.equals(shown(x)));
        Check.throwsIt("restore forgets the actions", Check.STATE, x::undo);
        Check.due("restore keeps the text", 3, x.clearText());
        x.put(0, 'q');
        Check.due("the slot keeps it", 6, x.restore(1));
        Check.due("it is the same", true, first.equals(shown(x)));
    }
}
