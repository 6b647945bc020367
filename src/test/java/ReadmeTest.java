import java.io.IOException;
import java.lang.reflect.Method;
import java.lang.reflect.Modifier;
import java.nio.file.Files;
import java.nio.file.Path;
import java.util.Collections;
import java.util.Set;
import java.util.TreeSet;
import java.util.regex.Matcher;
import java.util.regex.Pattern;

/** What README.md says of the class and of its tests. */
public final class ReadmeTest {
    public static void main(String[] args) throws IOException, InterruptedException {
        String readme = Files.readString(Path.of("README.md"));
        dueText("the example", block(readme, "text"), printed(block(readme, "java")));
        dueText("the calls", calls(), firstCells(readme, "\\| `(\\w+\\([^`]*\\))` \\|").replaceAll("\\w+(?=[,)])", "_"));
        dueText("the tests", tests(), firstCells(readme, "\\| `(\\w+Test)` \\|"));
        texts(readme);
        commands(readme);
        exceptions(readme);
        Check.end();
    }

    private static void dueText(String what, String want, String got) {
        if (!want.equals(got)) {
            System.out.println("due is:\n" + want + "\nit is:\n" + got);
        }
        Check.due(what + " is as due", true, want.equals(got));
    }

    private static String block(String readme, String language) {
        Matcher m = Pattern.compile("```" + language + "\n(.*?)```", Pattern.DOTALL).matcher(readme);
        return m.find() ? m.group(1) : "";
    }

    /** What a program prints that is run from its source, with the class compiled. */
    private static String printed(String program) throws IOException, InterruptedException {
        Path directory = Files.createTempDirectory("readme");
        Path source = directory.resolve("Example.java");
        Files.writeString(source, program);
        String java = Path.of(System.getProperty("java.home"), "bin", "java").toString();
        Process run = new ProcessBuilder(java, "-cp", System.getProperty("java.class.path"), source.toString())
            .redirectErrorStream(true).start();
        String out = new String(run.getInputStream().readAllBytes());
        Check.due("exit code of the example", 0, run.waitFor());
        Files.delete(source);
        Files.delete(directory);
        return out.replace("\r\n", "\n");
    }

    /** The calls of the face, with a _ for each parameter. */
    private static String calls() {
        Set<String> names = new TreeSet<>();
        for (Method m : BarredGrid.class.getDeclaredMethods()) {
            if (Modifier.isPublic(m.getModifiers())) {
                names.add(m.getName() + "(" + String.join(", ", Collections.nCopies(m.getParameterCount(), "_")) + ")");
            }
        }
        return names.toString();
    }

    private static String tests() {
        Set<String> names = new TreeSet<>();
        for (String name : Path.of("src/test/java").toFile().list()) {
            if (name.endsWith("Test.java")) {
                names.add(name.replace(".java", ""));
            }
        }
        return names.toString();
    }

    private static String firstCells(String readme, String row) {
        Set<String> names = new TreeSet<>();
        Matcher m = Pattern.compile("(?m)^" + row).matcher(readme);
        while (m.find()) {
            Check.due(m.group(1) + " stands once", true, names.add(m.group(1)));
        }
        return names.toString();
    }

    private static void texts(String readme) {
        Matcher m = Pattern.compile("`(G\\d\\d[^`]+)`").matcher(readme);
        int found = 0;
        while (m.find()) {
            Check.due("error position of " + m.group(1), BarredGrid.NONE, Make.typed(m.group(1)).errorPosition());
            found++;
        }
        Check.due("texts of grids", 1, found);
    }

    /** Each command of the table can succeed, with small numbers for its letters. */
    private static void commands(String readme) {
        BarredGrid x = Make.loaded("G22..../ab/cd/ac/bd");
        Matcher m = Pattern.compile("(?m)^\\| `(\\d\\w{4})` \\|").matcher(readme);
        int found = 0;
        while (m.find()) {
            String group = m.group(1).replace("cc", "00").replace("ee", "00").replace("0xxx", "0000")
                .replace("900xx", "90004").replace("n", "2").replaceAll("[a-z]", "0");
            Check.due("command " + m.group(1), BarredGrid.NONE, x.runScript(1, Long.parseLong(group)));
            found++;
        }
        Check.due("commands", 9, found);
    }

    private static void exceptions(String readme) {
        for (Class<?> one : new Class<?>[] {Check.INDEX, Check.ARGUMENT, Check.STATE}) {
            Check.due(one.getSimpleName() + " is named", true, readme.contains("- `" + one.getSimpleName() + "`:"));
        }
    }
}
