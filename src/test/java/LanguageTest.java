import java.io.IOException;
import java.lang.reflect.Constructor;
import java.lang.reflect.Field;
import java.lang.reflect.Method;
import java.lang.reflect.Modifier;
import java.nio.file.Files;
import java.nio.file.Path;
import java.util.Arrays;
import java.util.Set;
import java.util.TreeSet;
import java.util.regex.Matcher;
import java.util.regex.Pattern;

/** The rules of LANGUAGE.md that can be seen in the words of the source or in the compiled classes. */
public final class LanguageTest {
    private static final String[] FORBIDDEN = {"->", "::", "\\bcatch\\b", "\\bfinally\\b", "\\bsynchronized\\b",
        "\\bassert\\b", "\\bprotected\\b", "\\bpackage\\b", "\\bvar\\b", "Exact\\b", "MAX_VALUE", "MIN_VALUE",
        "\\bSystem\\.(?!arraycopy)", "\\bArrays\\.(?!copyOf|copyOfRange|fill)", "\" \\+|\\+ \"", "[^\\x00-\\x7f]",
        "static \\{", "\\bhashCode\\b", "\\bString\\b", "\\bRandom\\b", "\\bObject\\b"};

    public static void main(String[] args) throws IOException {
        String source = Files.readString(Path.of("src/main/java/BarredGrid.java"));
        for (String words : FORBIDDEN) {
            Matcher m = Pattern.compile(words).matcher(source);
            Check.due("the source has " + words, false, m.find());
        }
        Matcher imports = Pattern.compile("import ([^;]+);").matcher(source);
        while (imports.find()) {
            Check.due("import " + imports.group(1), true, imports.group(1).equals("java.util.Arrays"));
        }
        objectsAreMadeAtFirst(source);
        methodsAreShort(source);
        classesAreSmall();
        Check.end();
    }

    /** What is made stands in fields or constructors, but for exceptions: a line deeper inside is in a method. */
    private static void objectsAreMadeAtFirst(String source) {
        for (String line : source.split("\n")) {
            boolean isField = line.matches(" +(private )?final .*= new .*;");
            boolean isThrow = line.contains("throw new ");
            boolean isState = line.matches(" +(remembered|slots)\\[i\\] = new State\\(\\);");
            if (line.contains("new ") && !line.contains("//") && !line.contains("/**")) {
                Check.due("an object is made: " + line.trim(), true, isField || isThrow || isState);
            }
        }
    }

    /** A method ends at the first brace that stands as far to the right as its head. */
    private static void methodsAreShort(String source) {
        Matcher m = Pattern.compile("(?m)^( {4}| {8})(\\w[^\n;=]*\\([^\n;]*\\{)\n").matcher(source);
        int methods = 0;
        while (m.find()) {
            String rest = source.substring(m.end());
            String body = rest.substring(0, rest.indexOf("\n" + m.group(1) + "}") + 1);
            methods++;
            Check.due("over 40 lines: " + m.group(2), false, body.split("\n").length > 40);
        }
        Check.due("few methods were seen", false, methods < 27);
    }

    private static void classesAreSmall() {
        Set<String> face = new TreeSet<>();
        for (Method m : BarredGrid.class.getDeclaredMethods()) {
            if (Modifier.isPublic(m.getModifiers())) {
                face.add(m.getName());
            }
        }
        Class<?>[] inside = BarredGrid.class.getDeclaredClasses();
        Check.due("more than 12 classes", false, inside.length + 1 > 12);
        Class<?>[] all = Arrays.copyOf(inside, inside.length + 1);
        all[inside.length] = BarredGrid.class;
        for (Class<?> one : all) {
            boolean isFace = one == BarredGrid.class;
            Check.due(one + " is static", true, isFace || Modifier.isStatic(one.getModifiers()));
            Check.due(one + " has over 20 fields", false, Arrays.stream(one.getDeclaredFields())
                .filter(f -> !Modifier.isStatic(f.getModifiers())).count() > 20);
            for (Field f : one.getDeclaredFields()) {
                boolean isConstant = Modifier.isFinal(f.getModifiers());
                Check.due(f + " is static and not final", false, Modifier.isStatic(f.getModifiers()) && !isConstant);
            }
            for (Method m : one.getDeclaredMethods()) {
                boolean isOther = !Modifier.isPublic(m.getModifiers());
                Check.due(m + " bears a name of the face", false, isOther && face.contains(m.getName()));
                Check.due(m + " has over 7 parameters", false, m.getParameterCount() > 7);
            }
            for (Constructor<?> c : one.getDeclaredConstructors()) {
                Check.due(c + " has over 7 parameters", false, c.getParameterCount() > 7);
            }
        }
    }
}
