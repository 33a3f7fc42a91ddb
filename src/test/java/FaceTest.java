import java.lang.reflect.Constructor;
import java.lang.reflect.Field;
import java.lang.reflect.Method;
import java.lang.reflect.Modifier;
import java.util.Arrays;
import java.util.Set;
import java.util.TreeSet;

/** "The public face": what the document has stands at it, and nothing else. */
public final class FaceTest {
    private static final Check CHECK = new Check();
    private static final Set<String> DUE = new TreeSet<>(Set.of(
        "int syndrome(int, int, int, int)", "int repair(int, int, int, int)", "int seal(int, int, int, int)",
        "boolean place(int, int)", "int hear(int, int, int, int, int)", "int field(int)", "int bits(int, int)",
        "int crafts()", "int find(int)", "int craft(int, int)", "int sign(int, int)", "int zones(int)",
        "long encode(int, int, boolean, boolean)", "long global(long, long, boolean)",
        "long local(long, boolean, boolean, int, int)", "SquitterDesk()", "int NONE", "int UNKNOWN"));

    public static void main(String[] args) {
        Set<String> got = new TreeSet<>();
        methods(got);
        constructors(got);
        constants(got);
        CHECK.due("face is " + got, got.equals(DUE), true);
        kind();
        CHECK.finish();
    }

    private static void methods(Set<String> got) {
        for (Method method : SquitterDesk.class.getDeclaredMethods()) {
            if (!Modifier.isPrivate(method.getModifiers())) {
                got.add(method.getReturnType() + " " + method.getName() + list(method.getParameterTypes()));
                CHECK.due(method + " is public", Modifier.isPublic(method.getModifiers()), true);
                CHECK.due(method + " is static", Modifier.isStatic(method.getModifiers()), false);
                CHECK.due(method + " throws", method.getExceptionTypes().length, 0);
            }
        }
    }

    private static void constructors(Set<String> got) {
        for (Constructor<?> constructor : SquitterDesk.class.getDeclaredConstructors()) {
            got.add(constructor.getName() + list(constructor.getParameterTypes()));
            CHECK.due(constructor + " is public", Modifier.isPublic(constructor.getModifiers()), true);
        }
    }

    private static void constants(Set<String> got) {
        for (Field field : SquitterDesk.class.getDeclaredFields()) {
            int modifiers = field.getModifiers();
            if (!Modifier.isPrivate(modifiers)) {
                got.add(field.getType() + " " + field.getName());
                boolean constant = Modifier.isPublic(modifiers) && Modifier.isStatic(modifiers) && Modifier.isFinal(modifiers);
                CHECK.due(field + " is a public constant", constant, true);
            }
        }
    }

    private static void kind() {
        int modifiers = SquitterDesk.class.getModifiers();
        CHECK.due("public", Modifier.isPublic(modifiers), true);
        CHECK.due("final", Modifier.isFinal(modifiers), true);
        CHECK.due("no class above it", SquitterDesk.class.getSuperclass() == Object.class, true);
        CHECK.due("no interface", SquitterDesk.class.getInterfaces().length, 0);
        CHECK.due("no package", SquitterDesk.class.getPackageName().isEmpty(), true);
    }

    private static String list(Class<?>[] types) {
        return Arrays.toString(types).replace('[', '(').replace(']', ')');
    }
}
