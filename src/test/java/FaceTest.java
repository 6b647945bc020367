import java.io.IOException;
import java.lang.reflect.Constructor;
import java.lang.reflect.Field;
import java.lang.reflect.Member;
import java.lang.reflect.Method;
import java.lang.reflect.Modifier;
import java.nio.file.Files;
import java.nio.file.Path;
import java.util.Arrays;
import java.util.Set;
import java.util.TreeSet;
import java.util.stream.Collectors;

/** The face of the class, word by word, is the one that the document shows. */
public final class FaceTest {
    private static final String DOCUMENT = "../shared/DOC.md";

    public static void main(String[] args) throws IOException, IllegalAccessException {
        Set<String> told = told(Files.readString(Path.of(DOCUMENT)));
        Set<String> built = built();
        Check.due("what the document shows", 30, told.size());
        for (String one : told) {
            Check.due(one + " is there", true, built.contains(one));
        }
        for (String one : built) {
            Check.due(one + " is asked for", true, told.contains(one));
        }
        Check.end();
    }

    /** The lines of the document's block of Java, without the names of the parameters. */
    private static Set<String> told(String document) {
        String block = document.substring(document.indexOf("```java") + 7, document.indexOf("\n}\n```"));
        Set<String> lines = new TreeSet<>();
        for (String line : block.split("\n")) {
            if (!line.isBlank()) {
                lines.add(line.trim().replaceAll("(int|long|boolean) \\w+(?=[,)])", "$1"));
            }
        }
        return lines;
    }

    private static Set<String> built() throws IllegalAccessException {
        Set<String> lines = new TreeSet<>();
        Class<?> face = BarredGrid.class;
        lines.add(Modifier.toString(face.getModifiers()) + " class " + face.getName() + " {");
        for (Field f : face.getDeclaredFields()) {
            if (isSeen(f)) {
                lines.add(Modifier.toString(f.getModifiers()) + " " + f.getType() + " " + f.getName()
                    + " = " + f.getInt(null) + ";");
            }
        }
        for (Constructor<?> c : face.getDeclaredConstructors()) {
            if (isSeen(c)) {
                lines.add(Modifier.toString(c.getModifiers()) + " " + c.getName() + names("(", c.getParameterTypes(), ")")
                    + names(" throws ", c.getExceptionTypes(), "") + ";");
            }
        }
        for (Method m : face.getDeclaredMethods()) {
            if (isSeen(m)) {
                lines.add(Modifier.toString(m.getModifiers()) + " " + m.getReturnType() + " " + m.getName()
                    + names("(", m.getParameterTypes(), ")") + names(" throws ", m.getExceptionTypes(), "") + ";");
            }
        }
        return lines;
    }

    private static boolean isSeen(Member member) {
        return !member.isSynthetic() && !Modifier.isPrivate(member.getModifiers());
    }

    /** Nothing without types, unless they stand in brackets. */
    private static String names(String before, Class<?>[] types, String behind) {
        String all = Arrays.stream(types).map(Class::getSimpleName).collect(Collectors.joining(", "));
        return all.isEmpty() && behind.isEmpty() ? "" : before + all + behind;
    }
}
