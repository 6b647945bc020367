import java.util.ArrayDeque;
import java.util.ArrayList;
import java.util.Deque;
import java.util.HashSet;
import java.util.List;
import java.util.Set;
import java.util.TreeSet;
import java.util.regex.Matcher;
import java.util.regex.Pattern;

/** A second, slow program for the same document, for comparison with BarredGrid. */
final class Reference {
    private static final int NONE = -9;

    /** Between which cells there are bars, as "smaller-greater". */
    private record Grid(int rows, int columns, String letters, Set<String> bars, List<String> words, String line) {
        int size() {
            return rows * columns;
        }

        boolean side(int a, int b) {
            if (a < 0 || b < 0 || a >= size() || b >= size()) {
                return false;
            }
            int down = Math.abs(a / columns - b / columns);
            int across = Math.abs(a % columns - b % columns);
            return down + across == 1;
        }

        boolean open(int a, int b) {
            return side(a, b) && !bars.contains(Math.min(a, b) + "-" + Math.max(a, b));
        }

        Grid withLetter(int c, int letter) {
            char sign = letter == 0 ? '.' : (char) letter;
            return new Grid(rows, columns, letters.substring(0, c) + sign + letters.substring(c + 1), bars, words, line);
        }

        Grid withBar(int a, int b, boolean is) {
            Set<String> changed = new TreeSet<>(bars);
            if (is) {
                changed.add(a + "-" + b);
            } else {
                changed.remove(a + "-" + b);
            }
            return new Grid(rows, columns, letters, changed, words, line);
        }

        int neighbour(int c, boolean below) {
            return below ? c + columns : c + 1;
        }

        /** Entries as rows of cells; those across have a step of 1. */
        List<List<Integer>> entries() {
            List<List<Integer>> all = new ArrayList<>();
            for (int c = 0; c < size(); c++) {
                for (int step : new int[] {1, columns}) {
                    if (open(c - step, c) || !open(c, c + step)) {
                        continue;
                    }
                    List<Integer> cells = new ArrayList<>(List.of(c));
                    for (int d = c; open(d, d + step); d += step) {
                        cells.add(d + step);
                    }
                    all.add(cells);
                }
            }
            return all;
        }

        int in(int c) {
            return (int) entries().stream().filter(e -> e.contains(c)).count();
        }

        String at(List<Integer> cells) {
            StringBuilder found = new StringBuilder();
            cells.forEach(c -> found.append(letters.charAt(c)));
            return found.toString();
        }

        boolean fit(List<Integer> cells, String word) {
            return Pattern.matches(at(cells), word);
        }

        int fitting(List<Integer> cells) {
            return (int) words.stream().filter(w -> fit(cells, w)).count();
        }

        boolean keeps(int k) {
            return switch (k) {
                case 0 -> {
                    Set<String> turned = new HashSet<>();
                    for (String bar : bars) {
                        String[] ends = bar.split("-");
                        int a = size() - 1 - Integer.parseInt(ends[0]);
                        int b = size() - 1 - Integer.parseInt(ends[1]);
                        turned.add(b + "-" + a);
                    }
                    yield turned.equals(new HashSet<>(bars));
                }
                case 1 -> {
                    Set<Integer> covered = new HashSet<>();
                    entries().forEach(covered::addAll);
                    yield covered.size() == size();
                }
                case 2 -> entries().stream().allMatch(e -> {
                    long unchecked = e.stream().filter(c -> in(c) == 1).count();
                    return unchecked <= e.size() - unchecked;
                });
                case 3 -> entries().stream().noneMatch(e -> {
                    StringBuilder counts = new StringBuilder();
                    e.forEach(c -> counts.append(in(c)));
                    return counts.indexOf("11") >= 0;
                });
                default -> {
                    Deque<Integer> next = new ArrayDeque<>(List.of(0));
                    Set<Integer> seen = new HashSet<>(next);
                    while (!next.isEmpty()) {
                        int c = next.remove();
                        for (int d = 0; d < size(); d++) {
                            if (open(c, d) && seen.add(d)) {
                                next.add(d);
                            }
                        }
                    }
                    yield seen.size() == size();
                }
            };
        }

        int kept() {
            int kept = 0;
            for (int k = 0; k < 5; k++) {
                kept += keeps(k) ? 1 : 0;
            }
            return kept;
        }

        /** All rows of cells for the line, in their order, built up letter by letter. */
        List<List<Integer>> rowsOfCells(boolean emptyToo) {
            if (line.isEmpty()) {
                return List.of();
            }
            List<Integer> unchecked = new ArrayList<>();
            for (int c = 0; c < size(); c++) {
                if (in(c) == 1) {
                    unchecked.add(c);
                }
            }
            List<List<Integer>> found = new ArrayList<>(List.of(List.of()));
            for (char letter : line.toCharArray()) {
                List<List<Integer>> longer = new ArrayList<>();
                for (List<Integer> row : found) {
                    for (int c : unchecked) {
                        char sign = letters.charAt(c);
                        boolean suits = sign == letter || emptyToo && sign == '.';
                        boolean steps = row.isEmpty() || knight(row.get(row.size() - 1), c);
                        if (suits && steps && !row.contains(c)) {
                            List<Integer> next = new ArrayList<>(row);
                            next.add(c);
                            longer.add(next);
                        }
                    }
                }
                found = longer;
            }
            return found;
        }

        boolean knight(int a, int b) {
            int down = Math.abs(a / columns - b / columns);
            int across = Math.abs(a % columns - b % columns);
            return down * across == 2;
        }

        int fillings(List<List<Integer>> left, Set<Integer> used) {
            if (left.isEmpty()) {
                return 1;
            }
            int ways = 0;
            for (int w = 0; w < words.size(); w++) {
                if (!used.contains(w) && fit(left.get(0), words.get(w))) {
                    Set<Integer> more = new HashSet<>(used);
                    more.add(w);
                    ways += written(left.get(0), words.get(w)).fillings(left.subList(1, left.size()), more);
                }
            }
            return ways;
        }

        Grid written(List<Integer> cells, String word) {
            Grid next = this;
            for (int i = 0; i < cells.size(); i++) {
                next = next.withLetter(cells.get(i), word.charAt(i));
            }
            return next;
        }

        Grid erased(List<Integer> cells) {
            Grid next = this;
            for (int c : cells) {
                boolean stays = false;
                for (List<Integer> other : entries()) {
                    stays |= !other.equals(cells) && other.contains(c) && at(other).indexOf('.') < 0;
                }
                if (!stays) {
                    next = next.withLetter(c, 0);
                }
            }
            return next;
        }

        int filled() {
            return letters.replace(".", "").length();
        }

        int clue(int c) {
            TreeSet<Integer> firsts = new TreeSet<>();
            entries().forEach(e -> firsts.add(e.get(0)));
            return firsts.contains(c) ? firsts.headSet(c).size() + 1 : NONE;
        }
    }

    private String text = "";
    private Grid now = new Grid(3, 3, ".........", new TreeSet<>(), List.of(), "");
    private final List<Grid> remembered = new ArrayList<>();
    private final Grid[] slots = new Grid[2];

    private void remember() {
        remembered.add(now);
        if (remembered.size() > 14) {
            remembered.remove(0);
        }
    }

    private void cellIs(int c) {
        if (c < 0 || c >= now.size()) {
            throw new IndexOutOfBoundsException();
        }
    }

    private List<Integer> entryOf(int e) {
        List<List<Integer>> all = now.entries();
        if (e < 0 || e >= all.size()) {
            throw new IndexOutOfBoundsException();
        }
        return all.get(e);
    }

    private static void argument(boolean right) {
        if (!right) {
            throw new IllegalArgumentException();
        }
    }

    private static void state(boolean right) {
        if (!right) {
            throw new IllegalStateException();
        }
    }

    int append(int c) {
        argument(c >= 0 && c <= 255);
        state(text.length() < 150);
        text += (char) c;
        return text.length();
    }

    int clearText() {
        int length = text.length();
        text = "";
        return length;
    }

    /** The pattern of all grids of a size, cell by cell. */
    private static String shape(int rows, int columns) {
        StringBuilder shape = new StringBuilder("G" + rows + columns);
        for (int c = 0; c < rows * columns; c++) {
            shape.append("([a-z.]").append(c % columns < columns - 1 ? "\\|?" : "");
            shape.append(c / columns < rows - 1 ? "_?" : "").append(")");
        }
        return shape.toString();
    }

    private static boolean isGrid(String signs) {
        for (int rows = 2; rows <= 6; rows++) {
            for (int columns = 2; columns <= 6; columns++) {
                Matcher m = Pattern.compile(shape(rows, columns) + "((/[a-z]{2,6}|=[a-z]{1,6})*)").matcher(signs);
                if (m.matches()) {
                    String parts = m.group(rows * columns + 1);
                    return parts.chars().filter(s -> s == '/').count() <= 8
                        && parts.chars().filter(s -> s == '=').count() <= 1;
                }
            }
        }
        return false;
    }

    /** Whether something can be put behind the signs so that they are a grid. */
    private static boolean canGoOn(String signs) {
        String head = signs + "G22".substring(Math.min(3, signs.length()));
        for (String end : new String[] {"", "a", "aa"}) {
            if (isGrid(head + end)) {
                return true;
            }
        }
        for (int more = 1; more <= 36; more++) {
            if (isGrid(head + ".".repeat(more))) {
                return true;
            }
        }
        return false;
    }

    int errorPosition() {
        if (isGrid(text)) {
            return NONE;
        }
        int position = 0;
        while (position < text.length() && canGoOn(text.substring(0, position + 1))) {
            position++;
        }
        return position;
    }

    int load() {
        state(errorPosition() == NONE);
        int rows = text.charAt(1) - '0';
        int columns = text.charAt(2) - '0';
        Matcher m = Pattern.compile(shape(rows, columns) + "(.*)").matcher(text);
        state(m.matches());
        StringBuilder letters = new StringBuilder();
        Set<String> bars = new TreeSet<>();
        for (int c = 0; c < rows * columns; c++) {
            String part = m.group(c + 1);
            letters.append(part.charAt(0));
            if (part.contains("|")) {
                bars.add(c + "-" + (c + 1));
            }
            if (part.contains("_")) {
                bars.add(c + "-" + (c + columns));
            }
        }
        List<String> words = new ArrayList<>();
        String line = "";
        Matcher parts = Pattern.compile("[/=][a-z]+").matcher(m.group(rows * columns + 1));
        while (parts.find()) {
            if (parts.group().startsWith("/")) {
                words.add(parts.group().substring(1));
            } else {
                line = parts.group().substring(1);
            }
        }
        now = new Grid(rows, columns, letters.toString(), bars, words, line);
        remembered.clear();
        slots[0] = null;
        slots[1] = null;
        return now.size();
    }

    private int countIn(int entries) {
        int count = 0;
        for (int c = 0; c < now.size(); c++) {
            count += now.in(c) == entries ? 1 : 0;
        }
        return count;
    }

    private static boolean isAcross(List<Integer> cells) {
        // A grid has two columns or more, so that a step of 1 is never one down.
        return cells.get(1) == cells.get(0) + 1;
    }

    int about(int what) {
        argument(what >= 0 && what <= 10);
        return switch (what) {
            case 0 -> now.rows();
            case 1 -> now.columns();
            case 2 -> now.entries().size();
            case 3 -> (int) now.entries().stream().filter(Reference::isAcross).count();
            case 4 -> countIn(2);
            case 5 -> countIn(1);
            case 6 -> now.size() - now.filled();
            case 7 -> now.bars().size();
            case 8 -> now.words().size();
            case 9 -> now.line().length();
            default -> (int) now.entries().stream().map(e -> e.get(0)).distinct().count();
        };
    }

    int cell(int c, int what) {
        cellIs(c);
        argument(what >= 0 && what <= 6);
        int across = NONE;
        int down = NONE;
        List<List<Integer>> all = now.entries();
        for (int e = 0; e < all.size(); e++) {
            if (all.get(e).contains(c)) {
                if (isAcross(all.get(e))) {
                    across = e;
                } else {
                    down = e;
                }
            }
        }
        return switch (what) {
            case 0 -> now.letters().charAt(c) == '.' ? 0 : now.letters().charAt(c);
            case 1 -> now.bars().contains(c + "-" + (c + 1)) ? 1 : 0;
            case 2 -> now.bars().contains(c + "-" + (c + now.columns())) ? 1 : 0;
            case 3 -> across;
            case 4 -> down;
            case 5 -> now.in(c);
            default -> now.clue(c);
        };
    }

    int entry(int e, int what) {
        List<Integer> cells = entryOf(e);
        argument(what >= 0 && what <= 6);
        return switch (what) {
            case 0 -> cells.get(0);
            case 1 -> isAcross(cells) ? 0 : 1;
            case 2 -> cells.size();
            case 3 -> (int) cells.stream().filter(c -> now.in(c) == 1).count();
            case 4 -> (int) now.at(cells).chars().filter(s -> s == '.').count();
            case 5 -> now.clue(cells.get(0));
            default -> now.words().contains(now.at(cells)) ? now.words().indexOf(now.at(cells)) : NONE;
        };
    }

    int word(int w, int i) {
        if (w < 0 || w >= now.words().size()) {
            throw new IndexOutOfBoundsException();
        }
        argument(i >= 0);
        return i < now.words().get(w).length() ? now.words().get(w).charAt(i) : NONE;
    }

    int fits(int e) {
        return now.fitting(entryOf(e));
    }

    boolean rule(int k) {
        argument(k >= 0 && k <= 4);
        return now.keeps(k);
    }

    int readings() {
        return now.rowsOfCells(false).size();
    }

    int reading(int i) {
        argument(i >= 0);
        List<List<Integer>> all = now.rowsOfCells(false);
        return all.isEmpty() || i >= all.get(0).size() ? NONE : all.get(0).get(i);
    }

    int put(int c, int letter) {
        cellIs(c);
        argument(letter == 0 || letter >= 97 && letter <= 122);
        int previous = cell(c, 0);
        remember();
        now = now.withLetter(c, letter);
        return previous;
    }

    int setBar(int c, boolean below, boolean is) {
        cellIs(c);
        argument(now.side(c, now.neighbour(c, below)));
        remember();
        now = now.withBar(c, now.neighbour(c, below), is);
        return now.entries().size();
    }

    int addWord() {
        state(text.matches("[a-z]{2,6}") && now.words().size() < 8);
        remember();
        List<String> words = new ArrayList<>(now.words());
        words.add(text);
        now = new Grid(now.rows(), now.columns(), now.letters(), now.bars(), words, now.line());
        return words.size() - 1;
    }

    int setLine() {
        state(text.matches("[a-z]{1,6}"));
        remember();
        now = new Grid(now.rows(), now.columns(), now.letters(), now.bars(), now.words(), text);
        return text.length();
    }

    int write(int e, int w) {
        List<Integer> cells = entryOf(e);
        word(w, 0);
        state(now.fit(cells, now.words().get(w)));
        int empty = entry(e, 4);
        remember();
        now = now.written(cells, now.words().get(w));
        return empty;
    }

    int erase(int e) {
        List<Integer> cells = entryOf(e);
        int before = now.filled();
        remember();
        now = now.erased(cells);
        return before - now.filled();
    }

    int undo() {
        state(!remembered.isEmpty());
        now = remembered.remove(remembered.size() - 1);
        return remembered.size();
    }

    int possible() {
        return Math.min(9999, now.rowsOfCells(true).size());
    }

    int fillings() {
        return now.entries().size() > now.words().size() ? 0 : now.fillings(now.entries(), Set.of());
    }

    int mend() {
        int best = NONE;
        int broken = 5 - now.kept();
        for (int place = 0; place < 2 * now.size(); place++) {
            int a = place / 2;
            int b = now.neighbour(a, place % 2 == 1);
            if (now.side(a, b)) {
                int then = 5 - now.withBar(a, b, now.open(a, b)).kept();
                if (then < broken) {
                    broken = then;
                    best = place;
                }
            }
        }
        return best;
    }

    int hardest() {
        int best = NONE;
        for (int e = 0; e < now.entries().size(); e++) {
            if (entry(e, 4) > 0 && (best == NONE || fits(e) < fits(best))) {
                best = e;
            }
        }
        return best;
    }

    int runScript(int n, long script) {
        argument(n >= 1 && n <= 3 && script >= 0 && Long.toString(script).length() <= 5 * n);
        String digits = String.format("%0" + 5 * n + "d", script);
        Grid kept = now;
        List<Grid> before = new ArrayList<>(remembered);
        int answer = NONE;
        for (int k = 0; k < n && answer == NONE; k++) {
            boolean good;
            try {
                good = command(digits.substring(5 * k, 5 * k + 5));
            } catch (IndexOutOfBoundsException | IllegalArgumentException | IllegalStateException e) {
                good = false;
            }
            answer = good ? NONE : k;
        }
        now = kept;
        remembered.clear();
        remembered.addAll(before);
        return answer;
    }

    private boolean command(String d) {
        int front = Integer.parseInt(d.substring(1, 3));
        int back = Integer.parseInt(d.substring(3));
        if (d.matches("1....")) {
            put(front, back == 99 ? 0 : 97 + back);
        } else if (d.matches("2..[01][01]")) {
            setBar(front, d.charAt(3) == '1', d.charAt(4) == '1');
        } else if (d.matches("3...0")) {
            write(front, d.charAt(3) - '0');
        } else if (d.matches("4..00")) {
            erase(front);
        } else if (d.matches("5.000")) {
            return rule(d.charAt(1) - '0');
        } else if (d.matches("60...")) {
            return readings() >= Integer.parseInt(d.substring(2));
        } else if (d.matches("7..0.")) {
            return fits(front) >= back;
        } else if (d.matches("8..0.")) {
            return cell(front, 5) == back;
        } else if (d.matches("900..")) {
            return now.entries().size() == back;
        } else {
            return false;
        }
        return true;
    }

    int simulate(long seed, int m) {
        argument(m >= 1 && m <= 99);
        Grid copy = now;
        long x = seed;
        for (int i = 0; i < m; i++) {
            x = x * 6364136223846793005L + 1442695040888963407L;
            int r = (int) (x >>> 33);
            if (r % 2 == 0) {
                int place = r / 2 % (2 * copy.size());
                int a = place / 2;
                int b = copy.neighbour(a, place % 2 == 1);
                copy = copy.side(a, b) ? copy.withBar(a, b, copy.open(a, b)) : copy;
            } else {
                copy = copy.withLetter(r / 2 % copy.size(), 97 + r / 128 % 3);
            }
        }
        return 1000 * copy.kept() + 10 * copy.entries().size() + Math.min(9, copy.rowsOfCells(false).size());
    }

    int save(int slot) {
        if (slot < 0 || slot > 1) {
            throw new IndexOutOfBoundsException();
        }
        slots[slot] = now;
        return now.entries().size();
    }

    int restore(int slot) {
        if (slot < 0 || slot > 1) {
            throw new IndexOutOfBoundsException();
        }
        state(slots[slot] != null);
        now = slots[slot];
        remembered.clear();
        return now.entries().size();
    }
}
