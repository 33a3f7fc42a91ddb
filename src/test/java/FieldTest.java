/** Promises 7 and 8: the fields and the bits of the latest frame. */
public final class FieldTest {
    private static final Check CHECK = new Check();
    private static final int ADDRESS = 0x4840D6;

    public static void main(String[] args) {
        fields(11, Bits.of(11).set(6, 8, 5).set(9, 32, ADDRESS).seal(9), 11, 5, -1, -1, -1, -1, -1, -1, -1, -1, -1, ADDRESS, 9, -1, -1, -1);
        fields(17, Bits.of(17).set(6, 8, 6).set(9, 32, ADDRESS).set(33, 40, 0xFF).seal(), 17, 6, -1, -1, -1, -1, -1, -1, -1, -1, -1, ADDRESS, -1, 31, 7, -1);
        fields(18, Bits.of(18).set(6, 8, 2).set(9, 32, ADDRESS).set(33, 40, 0x4A).seal(), 18, 2, -1, -1, -1, -1, -1, -1, -1, -1, -1, ADDRESS, -1, 9, 2, -1);
        fields(18, Bits.of(18).set(6, 8, 2).set(9, 32, ADDRESS).set(33, 40, 0x4A).seal().turn(33), 18, 2, -1, -1, -1, -1, -1, -1, -1, -1, -1, ADDRESS, -1, 9, 2, 33);
        fields(11, Bits.of(11).set(6, 8, 4).set(9, 32, ADDRESS).seal().turn(10), 11, 4, -1, -1, -1, -1, -1, -1, -1, -1, -1, ADDRESS, 0, -1, -1, 10);
        for (int df : new int[] {4, 20}) {
            fields(df, reply(df), df, -1, 5, 19, 45, -1, -1, -1, -1, 0x1AB5, -1, ADDRESS, -1, -1, -1, -1);
        }
        for (int df : new int[] {5, 21}) {
            fields(df, reply(df), df, -1, 5, 19, 45, -1, -1, -1, -1, -1, 0x1AB5, ADDRESS, -1, -1, -1, -1);
        }
        fields(0, air(0), 0, -1, -1, -1, -1, 1, 1, 6, 13, 0x0F0F, -1, ADDRESS, -1, -1, -1, -1);
        fields(16, air(16), 16, -1, -1, -1, -1, 1, -1, 6, 13, 0x0F0F, -1, ADDRESS, -1, -1, -1, -1);
        fields(0, air(0).turn(6).turn(7).seal(ADDRESS), 0, -1, -1, -1, -1, 0, 0, 6, 13, 0x0F0F, -1, ADDRESS, -1, -1, -1, -1);
        refusedLeavesIt();
        CHECK.finish();
    }

    private static Bits reply(int df) {
        return Bits.of(df).set(6, 8, 5).set(9, 13, 19).set(14, 19, 45).set(20, 32, 0x1AB5).seal(ADDRESS);
    }

    private static Bits air(int df) {
        return Bits.of(df).set(6, 7, 3).set(9, 11, 6).set(14, 17, 13).set(20, 32, 0x0F0F).seal(ADDRESS);
    }

    private static SquitterDesk deskWithCraft() {
        SquitterDesk desk = new SquitterDesk();
        Bits.of(11).set(9, 32, ADDRESS).seal().hear(desk, 0);
        return desk;
    }

    private static void fields(int df, Bits frame, int... due) {
        SquitterDesk desk = deskWithCraft();
        CHECK.due("hear DF " + df, frame.hear(desk, 1), due[15] == -1 ? 0 : 1);
        for (int what = 0; what < 16; what++) {
            CHECK.due("DF " + df + " field(" + what + ")", desk.field(what), due[what]);
        }
        for (int what : new int[] {-1, 16, 17, 2147483647, -2147483648}) {
            CHECK.due("field(" + what + ")", desk.field(what), -1);
        }
    }

    private static void refusedLeavesIt() {
        SquitterDesk desk = deskWithCraft();
        reply(4).hear(desk, 5);
        Bits.of(24).hear(desk, 6);
        Bits.of(5).seal(1).hear(desk, 6);
        Bits.of(17).seal(5).hear(desk, 6);
        air(0).hear(desk, 5);
        air(16).syndrome(desk);
        CHECK.due("DF stays", desk.field(0), 4);
        CHECK.due("AC stays", desk.field(9), 0x1AB5);
        CHECK.due("bits stay", desk.bits(20, 13), 0x1AB5);
    }
}
