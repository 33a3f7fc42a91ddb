import java.io.IOException;
import java.lang.reflect.Constructor;
import java.lang.reflect.Field;
import java.lang.reflect.Method;
import java.lang.reflect.Modifier;
import java.nio.file.Files;
import java.nio.file.Path;
import java.util.Arrays;
import java.util.Set;
import java.util.TreeSet;

/** The public face, and those rules of LANGUAGE.md that can be read off the file. */
public final class FaceTest {
    private static final Check CHECK = new Check();

    public static void main(String[] args) throws IOException {
        face();
        rules();
        CHECK.finish();
    }

    private static void face() {
        Set<String> due = new TreeSet<>(Set.of(
            "int syndrome(int, int, int, int)", "int repair(int, int, int, int)", "int seal(int, int, int, int)",
            "boolean place(int, int)", "int hear(int, int, int, int, int)", "int field(int)", "int bits(int, int)",
            "int crafts()", "int find(int)", "int craft(int, int)", "int sign(int, int)", "int zones(int)",
            "long encode(int, int, boolean, boolean)", "long global(long, long, boolean)",
            "long local(long, boolean, boolean, int, int)", "SquitterDesk()", "int NONE", "int UNKNOWN"));
        Set<String> got = new TreeSet<>();
        for (Method method : SquitterDesk.class.getDeclaredMethods()) {
            if (!Modifier.isPrivate(method.getModifiers())) {
                got.add(method.getReturnType() + " " + method.getName() + list(method.getParameterTypes()));
                CHECK.due(method + " is public", Modifier.isPublic(method.getModifiers()), true);
            }
        }
        for (Constructor<?> constructor : SquitterDesk.class.getDeclaredConstructors()) {
            got.add(constructor.getName() + list(constructor.getParameterTypes()));
        }
        for (Field field : SquitterDesk.class.getDeclaredFields()) {
            if (!Modifier.isPrivate(field.getModifiers())) {
                got.add(field.getType() + " " + field.getName());
            }
        }
        CHECK.due("face is " + got, got.equals(due), true);
        CHECK.due("final", Modifier.isFinal(SquitterDesk.class.getModifiers()), true);
        for (Class<?> inside : SquitterDesk.class.getDeclaredClasses()) {
            CHECK.due(inside + " is static", Modifier.isStatic(inside.getModifiers()), true);
            CHECK.due(inside + " is private", Modifier.isPrivate(inside.getModifiers()), true);
            for (Field field : inside.getDeclaredFields()) {
                boolean changing = Modifier.isStatic(field.getModifiers()) && !Modifier.isFinal(field.getModifiers());
                CHECK.due(field + " is static state", changing, false);
            }
        }
    }

    private static String list(Class<?>[] types) {
        return Arrays.toString(types).replace('[', '(').replace(']', ')');
    }

    private static void rules() throws IOException {
        String source = Files.readString(Path.of("src/main/java/SquitterDesk.java"));
        String code = source.replaceAll("(?s)/\\*.*?\\*/", " ").replaceAll("//.*", " ");
        for (String word : new String[] {"throw", "try", "catch", "synchronized", "assert", "throws", "package", "new Random"}) {
            CHECK.due("'" + word + "' is not used", code.matches("(?s).*\\b" + word + "\\b.*"), false);
        }
        for (String sign : new String[] {"->", "::", "Exact("}) {
            CHECK.due("'" + sign + "' is not used", code.contains(sign), false);
        }
        for (String line : code.split("\n")) {
            if (line.startsWith("import ")) {
                CHECK.due(line, line.equals("import java.util.Arrays;"), true);
            }
        }
    }
}
