/** Promise 6: how frames are heard or refused, by their DF and their syndrome. */
public final class HearTest {
    private static final Check CHECK = new Check();

    public static void main(String[] args) {
        formats();
        syndromes();
        strangers();
        CHECK.finish();
    }

    private static void formats() {
        for (int df = 0; df < 32; df++) {
            SquitterDesk desk = new SquitterDesk();
            boolean own = df == 11 || df == 17 || df == 18;
            boolean reply = df == 0 || df == 4 || df == 5 || df == 16 || df == 20 || df == 21;
            int due = own ? 0 : reply ? -4 : -2;
            CHECK.due("DF " + df, Bits.of(df).seal().hear(desk, 1), due);
            CHECK.due("DF " + df + " crafts", desk.crafts(), own ? 1 : 0);
            CHECK.due("DF " + df + " field", desk.field(0), own ? df : -1);
        }
    }

    private static void syndromes() {
        SquitterDesk desk = new SquitterDesk();
        CHECK.due("sound", Bits.squitter(5, 4, 0).seal().hear(desk, 1), 0);
        CHECK.due("one wrong bit", Bits.squitter(5, 4, 0).seal().turn(112).hear(desk, 1), 1);
        CHECK.due("one wrong bit of the address", Bits.squitter(5, 4, 0).seal().turn(9).hear(desk, 1), 1);
        CHECK.due("still one craft", desk.crafts(), 1);
        CHECK.due("frames", desk.craft(0, 2), 3);
        CHECK.due("put right", desk.craft(0, 3), 2);
        CHECK.due("two wrong bits", Bits.squitter(5, 4, 0).seal().turn(20).turn(21).hear(desk, 1), -3);
        CHECK.due("frames", desk.craft(0, 2), 3);
        CHECK.due("put right bit stays", desk.field(15), 9);
        CHECK.due("DF 18 one wrong bit", Bits.of(18).set(9, 32, 5).seal().turn(6).hear(desk, 1), 1);
        CHECK.due("DF 11 of interrogator 127", Bits.of(11).set(9, 32, 5).seal(127).hear(desk, 1), 0);
        CHECK.due("DF 11 of 128", Bits.of(11).set(9, 32, 5).seal(128).hear(desk, 1), 1);
        CHECK.due("DF 11 interrogator put right", desk.field(12), 0);
        CHECK.due("DF 11 of 130", Bits.of(11).set(9, 32, 5).seal(130).hear(desk, 1), -3);
        CHECK.due("a reply with a wrong bit is a stranger's", Bits.of(4).seal(5).turn(30).hear(desk, 1), -4);
        CHECK.due("litter", Bits.of(4).seal(5).litter().hear(desk, 1), 0);
    }

    private static void strangers() {
        for (int df : new int[] {0, 4, 5, 16, 20, 21}) {
            SquitterDesk desk = new SquitterDesk();
            CHECK.due("DF " + df + " of no craft", Bits.of(df).seal(0xFFFFFF).hear(desk, 1), -4);
            CHECK.due("all-call", Bits.of(11).set(9, 32, 0xFFFFFF).seal(3).hear(desk, 1), 0);
            CHECK.due("DF " + df + " of a craft", Bits.of(df).seal(0xFFFFFF).hear(desk, 1), 0);
            CHECK.due("DF " + df + " of another", Bits.of(df).seal(0xFFFFFE).hear(desk, 1), -4);
            CHECK.due("field of the heard one", desk.field(11), 0xFFFFFF);
            CHECK.due("frames", desk.craft(0, 2), 2);
        }
    }
}
