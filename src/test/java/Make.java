import java.util.function.IntPredicate;

/** Objects of BarredGrid for the tests, and texts for them. */
final class Make {
    /*
     * a|b . .     entries: 0 down 0 4 8; 1 across 1 2 3; 2 down 1 5; 3 down 2 6 10;
     * c . d .     4 down 3 7 11; 5 across 4 5 6 7; 6 across 8 9 10 11
     *   -         unchecked: 0 and 9
     * . . e .
     */
    static final String LARGER = "G34a|b..c._d...e./bxy/cqde/axy/by/cdd=ae";

    // No cell has a neighbour without a bar between them.
    static final String WALLS = "G22.|_._.|.";

    private Make() {
    }

    static void type(BarredGrid x, String signs) {
        x.clearText();
        for (int i = 0; i < signs.length(); i++) {
            x.append(signs.charAt(i));
        }
    }

    static BarredGrid typed(String signs) {
        BarredGrid x = new BarredGrid();
        type(x, signs);
        return x;
    }

    static BarredGrid loaded(String signs) {
        BarredGrid x = typed(signs);
        x.load();
        return x;
    }

    /** The text of a grid, whose letters go on from the first again; bars stand where the cells answer true. */
    static String grid(int rows, int columns, String letters, IntPredicate right, IntPredicate below) {
        StringBuilder signs = new StringBuilder("G").append(rows).append(columns);
        for (int c = 0; c < rows * columns; c++) {
            signs.append(letters.charAt(c % letters.length()));
            signs.append(c % columns < columns - 1 && right.test(c) ? "|" : "");
            signs.append(c / columns < rows - 1 && below.test(c) ? "_" : "");
        }
        return signs.toString();
    }

    /** A grid with all bars below the cells and none beside them, so that each row is an entry of unchecked cells. */
    static String rows(int rows, int columns, String letters) {
        return grid(rows, columns, letters, c -> false, c -> true);
    }

    /** A grid without bars. */
    static String open(int rows, int columns, String letters) {
        return grid(rows, columns, letters, c -> false, c -> false);
    }

    /** An object with 14 remembered states, of which the oldest have given way, both slots and a text. */
    static BarredGrid busy(String signs) {
        return busyIn(LARGER, signs);
    }

    static BarredGrid busyIn(String grid, String signs) {
        BarredGrid x = loaded(grid);
        x.save(0);
        for (int i = 0; i < 9; i++) {
            x.put(i % 4, i % 3 == 0 ? 0 : 'a' + i);
        }
        x.setBar(0, true, true);
        x.save(1);
        type(x, "ace");
        x.setLine();
        x.setBar(1, true, true);
        x.put(1, 'b');
        x.put(0, 0);
        x.setBar(0, true, false);
        x.put(2, 'e');
        x.put(0, 'a');
        x.put(2, 0);
        type(x, signs);
        return x;
    }

    /** An object that has had this many actions, each of which puts another letter into cell 0. */
    static BarredGrid acted(int actions) {
        BarredGrid x = new BarredGrid();
        for (int i = 0; i < actions; i++) {
            x.put(0, 'a' + i % 26);
        }
        return x;
    }

    /** A text with the sign at the index replaced. */
    static String with(String signs, int index, char sign) {
        return signs.substring(0, index) + sign + signs.substring(index + 1);
    }
}
