import java.io.IOException;
import java.lang.reflect.Method;
import java.nio.file.Files;
import java.nio.file.Path;
import java.util.ArrayList;
import java.util.List;
import java.util.regex.Matcher;
import java.util.regex.Pattern;

/** The example in README.md is answered as it says, and README.md tells of every method. */
public final class ReadmeTest {
    private static final Check CHECK = new Check();
    private static final List<String> ROWS = new ArrayList<>();

    public static void main(String[] args) throws IOException {
        String readme = Files.readString(Path.of("README.md"));
        example();
        List<String> told = new ArrayList<>();
        Matcher row = Pattern.compile("(?m)^(desk\\..*?); +// (-?\\d+|true|false)").matcher(readme);
        while (row.find()) {
            told.add(row.group(1) + " = " + row.group(2));
        }
        CHECK.due("rows of the example", told.size(), ROWS.size());
        for (int i = 0; i < ROWS.size() && i < told.size(); i++) {
            CHECK.due("README.md has '" + told.get(i) + "' for '" + ROWS.get(i) + "'", told.get(i).equals(ROWS.get(i)), true);
        }
        for (Method method : SquitterDesk.class.getDeclaredMethods()) {
            String head = "| `" + method.getReturnType() + " " + method.getName() + "(";
            CHECK.due("README.md tells of " + method, readme.contains(head), true);
            CHECK.due("the example asks " + method, ROWS.stream().anyMatch(r -> r.startsWith("desk." + method.getName() + "(")), true);
        }
        CHECK.finish();
    }

    private static void row(String call, Object answer) {
        ROWS.add(call + " = " + answer);
    }

    private static void example() {
        SquitterDesk desk = new SquitterDesk();
        heard(desk);
        putRight(desk);
        refused(desk);
        compact(desk);
    }

    private static void heard(SquitterDesk desk) {
        row("desk.hear(0x8D40621D, 0x58C382D6, 0x90C8AC28, 0x63A70000, 20)", desk.hear(0x8D40621D, 0x58C382D6, 0x90C8AC28, 0x63A70000, 20));
        row("desk.hear(0x8D40621D, 0x58C38643, 0x5CC41269, 0x2AD60000, 21)", desk.hear(0x8D40621D, 0x58C38643, 0x5CC41269, 0x2AD60000, 21));
        row("desk.find(0x40621D)", desk.find(0x40621D));
        row("desk.craft(0, 4)", desk.craft(0, 4));
        row("desk.craft(0, 5)", desk.craft(0, 5));
        row("desk.craft(0, 15)", desk.craft(0, 15));
        row("desk.craft(0, 16)", desk.craft(0, 16));
    }

    private static void putRight(SquitterDesk desk) {
        row("desk.repair(0x8D4840D6, 0x202CC371, 0xC32CE057, 0x60990000)", desk.repair(0x8D4840D6, 0x202CC371, 0xC32CE057, 0x60990000));
        row("desk.hear(0x8D4840D6, 0x202CC371, 0xC32CE057, 0x60990000, 22)", desk.hear(0x8D4840D6, 0x202CC371, 0xC32CE057, 0x60990000, 22));
        row("desk.field(15)", desk.field(15));
        row("desk.bits(9, 24)", desk.bits(9, 24));
        row("desk.crafts()", desk.crafts());
        row("desk.sign(1, 0)", desk.sign(1, 0));
        row("desk.seal(0x8D4840D6, 0x202CC371, 0xC32CE000, 0)", desk.seal(0x8D4840D6, 0x202CC371, 0xC32CE000, 0));
        row("desk.syndrome(0x8D4840D6, 0x202CC371, 0xC32CE057, 0x60990000)", desk.syndrome(0x8D4840D6, 0x202CC371, 0xC32CE057, 0x60990000));
    }

    private static void refused(SquitterDesk desk) {
        row("desk.hear(0x8D4840D6, 0x202CC371, 0xC32CE057, 0x60980000, 21)", desk.hear(0x8D4840D6, 0x202CC371, 0xC32CE057, 0x60980000, 21));
        row("desk.hear(0xC8000000, 0, 0, 0, 30)", desk.hear(0xC8000000, 0, 0, 0, 30));
        row("desk.hear(0xA0001838, 0xCA3E51F0, 0xA8000047, 0xA36A0000, 30)", desk.hear(0xA0001838, 0xCA3E51F0, 0xA8000047, 0xA36A0000, 30));
    }

    private static void compact(SquitterDesk desk) {
        row("desk.place(51990000, 4375000)", desk.place(51990000, 4375000));
        row("desk.zones(52257202)", desk.zones(52257202));
        row("desk.encode(52257202, 3919373, false, false)", desk.encode(52257202, 3919373, false, false));
        row("desk.encode(52265780, 3938912, false, true)", desk.encode(52265780, 3938912, false, true));
        row("desk.global(12189747372L, 9720087570L, true)", desk.global(12189747372L, 9720087570L, true));
        row("desk.local(12189747372L, false, false, 52258000, 3918000)", desk.local(12189747372L, false, false, 52258000, 3918000));
    }
}
