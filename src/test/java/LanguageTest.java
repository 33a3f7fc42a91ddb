import java.io.IOException;
import java.lang.reflect.Executable;
import java.lang.reflect.Field;
import java.lang.reflect.Method;
import java.lang.reflect.Modifier;
import java.nio.file.Files;
import java.nio.file.Path;
import java.util.ArrayList;
import java.util.List;
import java.util.Set;
import java.util.TreeSet;
import java.util.regex.Matcher;
import java.util.regex.Pattern;

/** Those rules of LANGUAGE.md that can be read off the file or off the classes, by their numbers. */
public final class LanguageTest {
    private static final Check CHECK = new Check();
    private static final List<Class<?>> CLASSES = classes();
    private static final Set<Class<?>> CONSTANTS = Set.of(
        int.class, long.class, boolean.class, char.class, String.class, int[].class, long[].class, char[].class, byte[].class);
    // The part of rule 4 that the class needs; more of it may be added here when it is used.
    private static final Set<String> LIBRARY = Set.of(
        "Math.abs", "Math.max", "Math.floorDiv", "Math.floorMod", "System.arraycopy", "Arrays.fill");

    public static void main(String[] args) throws IOException {
        String file = Files.readString(Path.of("src/main/java/SquitterDesk.java"));
        String code = file.replaceAll("(?s)/\\*.*?\\*/", " ").replaceAll("//.*", " ");
        ruleOneNames();
        ruleTwoInside(code);
        ruleThreeTexts(file);
        ruleFourLibrary(code);
        ruleFiveStatics(code);
        ruleSixWords(code);
        ruleElevenSizes(code);
        ruleTwelveObjects(code);
        CHECK.finish();
    }

    private static List<Class<?>> classes() {
        List<Class<?>> classes = new ArrayList<>(List.of(SquitterDesk.class.getDeclaredClasses()));
        classes.add(0, SquitterDesk.class);
        return classes;
    }

    private static void ruleOneNames() {
        Set<String> open = new TreeSet<>();
        for (Method method : SquitterDesk.class.getMethods()) {
            open.add(method.getName());
        }
        for (Class<?> one : CLASSES) {
            for (Method method : one.getDeclaredMethods()) {
                boolean ofFace = one == SquitterDesk.class && Modifier.isPublic(method.getModifiers());
                CHECK.due(method + " bears the name of a public one", !ofFace && open.contains(method.getName()), false);
            }
        }
    }

    private static void ruleTwoInside(String code) {
        for (Class<?> inside : SquitterDesk.class.getDeclaredClasses()) {
            CHECK.due(inside + " is static", Modifier.isStatic(inside.getModifiers()), true);
            CHECK.due(inside + " is private", Modifier.isPrivate(inside.getModifiers()), true);
        }
        CHECK.due("an anonymous class", found(code, "new \\w+\\([^;{}]*\\)\\s*\\{"), false);
        CHECK.due("a lambda or a method reference", found(code, "->|::"), false);
    }

    private static void ruleThreeTexts(String file) {
        CHECK.due("characters of ASCII alone", file.chars().allMatch(c -> c < 128), true);
        CHECK.due("double, float", found(file, "\\b(double|float|Double|Float)\\b"), false);
    }

    private static void ruleFourLibrary(String code) {
        Matcher use = Pattern.compile("\\b([A-Z]\\w*[a-z]\\w*)\\.(\\w+)").matcher(code);
        while (use.find()) {
            boolean listed = LIBRARY.contains(use.group());
            CHECK.due(use.group() + " is allowed", isOwn(use.group(1)) || listed, true);
        }
        Matcher imported = Pattern.compile("\\bimport\\s+([^;]*);").matcher(code);
        while (imported.find()) {
            CHECK.due("import of " + imported.group(1), imported.group(1).equals("java.util.Arrays"), true);
        }
        CHECK.due("a package's name in the code", found(code.replaceAll("\\bimport[^;]*;", ""), "\\bjavax?\\."), false);
    }

    private static boolean isOwn(String name) {
        return CLASSES.stream().anyMatch(one -> one.getSimpleName().equals(name));
    }

    private static void ruleFiveStatics(String code) {
        for (Class<?> one : CLASSES) {
            for (Field field : one.getDeclaredFields()) {
                if (Modifier.isStatic(field.getModifiers())) {
                    CHECK.due(field + " is final", Modifier.isFinal(field.getModifiers()), true);
                    CHECK.due(field + " has a type of rule 5", CONSTANTS.contains(field.getType()), true);
                }
            }
        }
        CHECK.due("a static initialiser", found(code, "\\bstatic\\s*\\{"), false);
    }

    private static void ruleSixWords(String code) {
        for (String word : new String[] {"throw", "throws", "try", "catch", "finally", "synchronized", "assert", "package",
            "equals", "hashCode", "toString", "yield"}) {
            CHECK.due("'" + word + "' is not used", found(code, "\\b" + word + "\\b"), false);
        }
    }

    private static void ruleElevenSizes(String code) {
        CHECK.due("at most twelve classes", CLASSES.size() <= 12, true);
        for (Class<?> one : CLASSES) {
            List<Executable> methods = new ArrayList<>(List.of(one.getDeclaredMethods()));
            methods.addAll(List.of(one.getDeclaredConstructors()));
            for (Executable method : methods) {
                CHECK.due(method + " takes at most seven", method.getParameterCount() <= 7, true);
            }
            long fields = List.of(one.getDeclaredFields()).stream().filter(f -> !Modifier.isStatic(f.getModifiers())).count();
            CHECK.due(one + " has at most twenty fields", fields <= 20, true);
        }
        for (String body : methods(code)) {
            CHECK.due("at most sixty lines:" + body.lines().findFirst().get(), body.lines().count() <= 60, true);
        }
    }

    /** What is made stands in constructors alone, so that a run needs no more room than its objects. */
    private static void ruleTwelveObjects(String code) {
        for (String body : methods(code)) {
            String head = body.lines().findFirst().get();
            boolean constructor = head.matches(" +(public )?[A-Z]\\w*\\(.*");
            CHECK.due("makes an object:" + head, !constructor && found(body, "\\bnew\\b"), false);
        }
    }

    /** Every method and constructor with its body, by the margin at which it begins and ends. */
    private static List<String> methods(String code) {
        List<String> methods = new ArrayList<>();
        Matcher method = Pattern.compile("(?ms)^( +)(?! )(?!private static final class)[^\\n;=]*\\([^\\n;=]*\\) \\{\\n.*?^\\1\\}").matcher(code);
        while (method.find()) {
            methods.add(method.group());
        }
        int declared = CLASSES.stream().mapToInt(one -> one.getDeclaredMethods().length).sum();
        CHECK.due("all " + declared + " methods are found", methods.size() > declared, true);
        return methods;
    }

    private static boolean found(String code, String pattern) {
        return Pattern.compile(pattern).matcher(code).find();
    }
}
