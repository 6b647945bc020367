import java.lang.reflect.InvocationTargetException;
import java.lang.reflect.Method;
import java.util.Random;

/** Long runs of calls whose answers must be those of Reference; the runs are always the same. */
public final class DifferentialTest {
    private static final String[] CALLS = {"append", "clearText", "errorPosition", "load", "about", "cell", "entry",
        "word", "fits", "rule", "readings", "reading", "put", "setBar", "addWord", "setLine", "write", "erase", "undo",
        "possible", "fillings", "mend", "hardest", "runScript", "simulate", "save", "restore"};

    private final Random random;
    private final BarredGrid built = new BarredGrid();
    private final Reference told = new Reference();
    private final StringBuilder log = new StringBuilder();
    private int calls = 0;
    private int cells = 9;
    private int alphabet = 2;

    private DifferentialTest(long seed) {
        random = new Random(seed);
    }

    public static void main(String[] args) {
        int runs = args.length > 0 ? Integer.parseInt(args[0]) : 100;
        int first = args.length > 1 ? Integer.parseInt(args[1]) : 0;
        for (int seed = first; seed < first + runs; seed++) {
            if (!new DifferentialTest(seed).run()) {
                System.exit(1);
            }
        }
        System.out.println("all answers are those of the reference");
    }

    private boolean run() {
        while (calls < 512) {
            boolean same = switch (random.nextInt(40)) {
                case 0 -> type(broken(grid())) && same("errorPosition") && same("load");
                case 1 -> type(grid()) && same("load");
                case 2, 3 -> type(letters(random.nextInt(8))) && same("setLine");
                case 4, 5 -> type(letters(random.nextInt(8))) && same("addWord");
                case 6 -> same(CALLS[random.nextInt(3)]);
                default -> same(CALLS[3 + random.nextInt(CALLS.length - 3)]);
            };
            if (!same) {
                System.out.println(log);
                return false;
            }
        }
        return true;
    }

    private boolean type(String signs) {
        boolean same = same("clearText");
        for (int i = 0; i < signs.length() && same; i++) {
            same = compare("append", signs.charAt(i), 0, 0);
        }
        return same;
    }

    private char letter() {
        return (char) ('a' + random.nextInt(random.nextInt(30) == 0 ? 26 : alphabet));
    }

    private String letters(int length) {
        StringBuilder signs = new StringBuilder();
        for (int i = 0; i < length; i++) {
            signs.append(letter());
        }
        return signs.toString();
    }

    private String grid() {
        alphabet = 1 + random.nextInt(random.nextInt(3) + 1);
        int rows = 2 + random.nextInt(random.nextInt(3) + 3);
        int columns = 2 + random.nextInt(random.nextInt(3) + 3);
        int empty = random.nextInt(11);
        int right = random.nextInt(11);
        int below = random.nextInt(11);
        StringBuilder signs = new StringBuilder("G").append(rows).append(columns);
        for (int c = 0; c < rows * columns; c++) {
            signs.append(random.nextInt(10) < empty ? '.' : letter());
            signs.append(c % columns < columns - 1 && random.nextInt(10) < right ? "|" : "");
            signs.append(c / columns < rows - 1 && random.nextInt(10) < below ? "_" : "");
        }
        int words = random.nextInt(9);
        int line = random.nextInt(words + 2);
        for (int w = 0; w <= words; w++) {
            int length = random.nextInt(3) == 0 ? 2 + random.nextInt(5) : random.nextBoolean() ? rows : columns;
            signs.append(w == line ? "=" + letters(1 + random.nextInt(random.nextInt(6) + 1)) : "");
            signs.append(w < words ? "/" + letters(length) : "");
        }
        return signs.length() <= 150 ? signs.toString() : signs.substring(0, 150);
    }

    private String broken(String signs) {
        String some = "G1234567ab./=_|A \u00ff\u0000z";
        int at = random.nextInt(signs.length());
        char sign = some.charAt(random.nextInt(some.length()));
        return switch (random.nextInt(4)) {
            case 0 -> signs.substring(0, at);
            case 1 -> signs.substring(0, at) + sign + signs.substring(at + 1);
            case 2 -> signs.length() < 150 ? signs.substring(0, at) + sign + signs.substring(at) : signs;
            default -> signs.substring(0, at) + signs.substring(at + 1);
        };
    }

    private int number(int usual) {
        return switch (random.nextInt(40)) {
            case 0 -> -1;
            case 1 -> usual;
            case 2 -> Integer.MAX_VALUE;
            case 3 -> Integer.MIN_VALUE;
            default -> random.nextInt(usual);
        };
    }

    private boolean same(String name) {
        switch (name) {
            case "append": return compare(name, number(256), 0, 0);
            case "about": return compare(name, number(11), 0, 0);
            case "cell": return compare(name, number(cells), number(7), 0);
            case "entry": return compare(name, number(entries()), number(7), 0);
            case "word": return compare(name, number(words()), number(7), 0);
            case "fits": case "erase": return compare(name, number(entries()), 0, 0);
            case "rule": return compare(name, number(5), 0, 0);
            case "put": return compare(name, number(cells), random.nextInt(9) == 0 ? number(130) : someLetter(), 0);
            case "setBar": return compare(name, number(cells), 2 * random.nextInt(4), 0);
            case "write": return compare(name, number(entries()), number(words()), 0);
            case "runScript": return compareScript();
            case "simulate": return compare(name, number(100), 0, random.nextLong());
            case "save": case "restore": return compare(name, number(2), 0, 0);
            default: return compare(name, number(8), 0, 0);
        }
    }

    private int someLetter() {
        return random.nextInt(4) == 0 ? 0 : letter();
    }

    private int entries() {
        return Math.max(1, told.about(2));
    }

    private int words() {
        return Math.max(1, told.about(8));
    }

    private boolean compareScript() {
        int n = random.nextInt(20) == 0 ? number(5) : 1 + random.nextInt(3);
        long script = random.nextInt(30) == 0 ? random.nextLong() : 0;
        int groups = random.nextInt(20) == 0 ? random.nextInt(4) : n;
        for (int k = 0; k < groups && k < 3; k++) {
            script = script * 100000 + group();
        }
        return compare("runScript", n, 0, script);
    }

    private long group() {
        int c = random.nextInt(cells);
        int e = random.nextInt(entries());
        return switch (random.nextInt(11)) {
            case 0 -> random.nextInt(100000);
            case 1 -> 10000 + 100 * c + (random.nextInt(3) == 0 ? 99 : random.nextInt(27));
            case 2 -> 20000 + 100 * c + 10 * random.nextInt(2) + random.nextInt(2);
            case 3 -> 30000 + 100 * e + 10 * random.nextInt(words());
            case 4 -> 40000 + 100 * e;
            case 5 -> 50000 + 1000 * random.nextInt(6);
            case 6 -> 60000 + random.nextInt(5);
            case 7 -> 70000 + 100 * e + random.nextInt(4);
            case 8 -> 80000 + 100 * c + random.nextInt(3);
            case 9 -> 90000 + entries() - random.nextInt(2);
            default -> 10000 * random.nextInt(10) + 100 * random.nextInt(40) + random.nextInt(3);
        };
    }

    private boolean compare(String name, int a, int b, long s) {
        calls++;
        String want = answer(told, name, a, b, s);
        String got = answer(built, name, a, b, s);
        log.append(name).append(' ').append(a).append(' ').append(b).append(' ').append(s).append(": ").append(got)
            .append('\n');
        if (name.equals("load") && want.charAt(0) != 'j') {
            cells = Integer.parseInt(want);
        }
        if (!want.equals(got)) {
            log.append("due is ").append(want);
        }
        return want.equals(got);
    }

    private static String answer(Object x, String name, int a, int b, long s) {
        for (Method m : x.getClass().getDeclaredMethods()) {
            if (m.getName().equals(name)) {
                return answer(x, m, arguments(m, a, b, s));
            }
        }
        throw new AssertionError("there is no " + name);
    }

    private static String answer(Object x, Method m, Object[] arguments) {
        try {
            return m.invoke(x, arguments).toString();
        } catch (InvocationTargetException e) {
            return e.getCause().getClass().getName();
        } catch (IllegalAccessException e) {
            throw new AssertionError(e);
        }
    }

    /** The int arguments are a and b, a long one is s, and the two bits of b are the boolean ones. */
    private static Object[] arguments(Method m, int a, int b, long s) {
        Class<?>[] types = m.getParameterTypes();
        Object[] all = new Object[types.length];
        int ints = 0;
        for (int i = 0; i < types.length; i++) {
            if (types[i] == int.class) {
                all[i] = ints++ == 0 ? a : b;
            } else {
                all[i] = types[i] == long.class ? (Object) s : (Object) ((b >> i & 1) == 1);
            }
        }
        return all;
    }
}
