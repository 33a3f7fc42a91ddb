/** Promises 5 and 6: the desk's own place, and how frames are heard or refused. */
public final class HearTest {
    private static final Check CHECK = new Check();
    private static final int UNKNOWN = SquitterDesk.UNKNOWN;

    public static void main(String[] args) {
        ownPlace();
        times();
        formats();
        syndromes();
        strangers();
        fullBook();
        silence();
        CHECK.finish();
    }

    private static void ownPlace() {
        SquitterDesk desk = new SquitterDesk();
        CHECK.due("latitude 90", desk.place(90000000, 0), true);
        CHECK.due("latitude -90", desk.place(-90000000, 0), true);
        CHECK.due("longitude -180", desk.place(0, -180000000), true);
        CHECK.due("longitude 179.999999", desk.place(0, 179999999), true);
        CHECK.due("the last one counts", desk.place(10000000, 20000000), true);
        CHECK.due("latitude above 90", desk.place(90000001, 0), false);
        CHECK.due("latitude below -90", desk.place(-90000001, 0), false);
        CHECK.due("longitude 180", desk.place(0, 180000000), false);
        CHECK.due("longitude below -180", desk.place(0, -180000001), false);
        CHECK.due("least numbers", desk.place(UNKNOWN, UNKNOWN), false);
        long code = desk.encode(10000000, 20000000, true, false);
        CHECK.due("ground frame", Bits.position(1, 5, false, code).seal().hear(desk, 0), 0);
        CHECK.due("near the place that stayed", Math.abs(desk.craft(0, 15) - 10000000) < 20, true);
        CHECK.due("near the place that stayed", Math.abs(desk.craft(0, 16) - 20000000) < 20, true);
    }

    private static void times() {
        SquitterDesk desk = new SquitterDesk();
        Bits frame = Bits.squitter(5, 4, 0).seal();
        CHECK.due("time -1", frame.hear(desk, -1), -1);
        CHECK.due("least time", frame.hear(desk, UNKNOWN), -1);
        CHECK.due("time above all", frame.hear(desk, 1000000001), -1);
        CHECK.due("greatest number", frame.hear(desk, 2147483647), -1);
        CHECK.due("none of them counts", frame.hear(desk, 0), 0);
        CHECK.due("the same time again", frame.hear(desk, 0), 0);
        CHECK.due("a refused frame's time counts", Bits.of(24).seal().hear(desk, 50), -2);
        CHECK.due("ahead of it", frame.hear(desk, 49), -1);
        CHECK.due("another time comes ahead of DF", Bits.of(24).seal().hear(desk, 49), -1);
        CHECK.due("at it", frame.hear(desk, 50), 0);
        CHECK.due("a wrong frame's time counts", Bits.squitter(5, 4, 0).seal(3).hear(desk, 60), -3);
        CHECK.due("ahead of it", frame.hear(desk, 59), -1);
        CHECK.due("a stranger's time counts", Bits.of(4).seal(99).hear(desk, 70), -4);
        CHECK.due("ahead of it", frame.hear(desk, 69), -1);
        CHECK.due("the last time", frame.hear(desk, 1000000000), 0);
        CHECK.due("the last time again", frame.hear(desk, 1000000000), 0);
        CHECK.due("time above all", frame.hear(desk, 1000000001), -1);
        CHECK.due("heard last", desk.craft(0, 1), 1000000000);
        CHECK.due("frames", desk.craft(0, 2), 2);
    }

    private static void formats() {
        for (int df = 0; df < 32; df++) {
            SquitterDesk desk = new SquitterDesk();
            boolean own = df == 11 || df == 17 || df == 18;
            boolean reply = df == 0 || df == 4 || df == 5 || df == 16 || df == 20 || df == 21;
            int due = own ? 0 : reply ? -4 : -2;
            CHECK.due("DF " + df, Bits.of(df).seal().hear(desk, 1), due);
            CHECK.due("DF " + df + " crafts", desk.crafts(), own ? 1 : 0);
            CHECK.due("DF " + df + " field", desk.field(0), own ? df : -1);
        }
    }

    private static void syndromes() {
        SquitterDesk desk = new SquitterDesk();
        CHECK.due("sound", Bits.squitter(5, 4, 0).seal().hear(desk, 1), 0);
        CHECK.due("one wrong bit", Bits.squitter(5, 4, 0).seal().turn(112).hear(desk, 1), 1);
        CHECK.due("one wrong bit of the address", Bits.squitter(5, 4, 0).seal().turn(9).hear(desk, 1), 1);
        CHECK.due("still one craft", desk.crafts(), 1);
        CHECK.due("frames", desk.craft(0, 2), 3);
        CHECK.due("put right", desk.craft(0, 3), 2);
        CHECK.due("two wrong bits", Bits.squitter(5, 4, 0).seal().turn(20).turn(21).hear(desk, 1), -3);
        CHECK.due("frames", desk.craft(0, 2), 3);
        CHECK.due("put right bit stays", desk.field(15), 9);
        CHECK.due("DF 18 one wrong bit", Bits.of(18).set(9, 32, 5).seal().turn(6).hear(desk, 1), 1);
        CHECK.due("DF 11 of interrogator 127", Bits.of(11).set(9, 32, 5).seal(127).hear(desk, 1), 0);
        CHECK.due("DF 11 of 128", Bits.of(11).set(9, 32, 5).seal(128).hear(desk, 1), 1);
        CHECK.due("DF 11 interrogator put right", desk.field(12), 0);
        CHECK.due("DF 11 of 130", Bits.of(11).set(9, 32, 5).seal(130).hear(desk, 1), -3);
        CHECK.due("a reply with a wrong bit is a stranger's", Bits.of(4).seal(5).turn(30).hear(desk, 1), -4);
        CHECK.due("litter", Bits.of(4).seal(5).litter().hear(desk, 1), 0);
    }

    private static void strangers() {
        for (int df : new int[] {0, 4, 5, 16, 20, 21}) {
            SquitterDesk desk = new SquitterDesk();
            CHECK.due("DF " + df + " of no craft", Bits.of(df).seal(0xFFFFFF).hear(desk, 1), -4);
            CHECK.due("all-call", Bits.of(11).set(9, 32, 0xFFFFFF).seal(3).hear(desk, 1), 0);
            CHECK.due("DF " + df + " of a craft", Bits.of(df).seal(0xFFFFFF).hear(desk, 1), 0);
            CHECK.due("DF " + df + " of another", Bits.of(df).seal(0xFFFFFE).hear(desk, 1), -4);
            CHECK.due("field of the heard one", desk.field(11), 0xFFFFFF);
            CHECK.due("frames", desk.craft(0, 2), 2);
        }
    }

    private static void fullBook() {
        SquitterDesk desk = new SquitterDesk();
        for (int k = 0; k < 20; k++) {
            CHECK.due("craft " + k, Bits.squitter(1000 + k, 4, 0).seal().hear(desk, 10 * k), 0);
        }
        CHECK.due("21st by DF 17", Bits.squitter(2000, 4, 0).seal().hear(desk, 200), -5);
        CHECK.due("21st by DF 18", Bits.of(18).set(9, 32, 2000).seal().hear(desk, 200), -5);
        CHECK.due("21st by DF 11", Bits.of(11).set(9, 32, 2000).seal(5).hear(desk, 200), -5);
        CHECK.due("21st put right", Bits.squitter(2000, 4, 0).seal().turn(50).hear(desk, 200), -5);
        CHECK.due("a stranger comes ahead of 21st", Bits.of(5).seal(2000).hear(desk, 200), -4);
        CHECK.due("latest stays", desk.field(11), 1019);
        CHECK.due("one of the 20", Bits.squitter(1000, 4, 0).seal().hear(desk, 200), 0);
        CHECK.due("crafts", desk.crafts(), 20);
        CHECK.due("find", desk.find(2000), -1);
        // Craft 1001 came at 10, so at 611 it is gone and there is room.
        CHECK.due("room for another", Bits.squitter(2000, 4, 0).seal().hear(desk, 611), 0);
        CHECK.due("crafts", desk.crafts(), 20);
        CHECK.due("the first stays", desk.find(1000), 0);
        CHECK.due("the second is gone", desk.find(1001), -1);
        CHECK.due("the third moved up", desk.find(1002), 1);
        CHECK.due("the new one is the last", desk.find(2000), 19);
    }

    private static void silence() {
        SquitterDesk desk = new SquitterDesk();
        Bits.squitter(1, 4, 3).seal().hear(desk, 100);
        Bits.squitter(2, 4, 0).seal().hear(desk, 200);
        CHECK.due("600 later", Bits.of(24).hear(desk, 700), -2);
        CHECK.due("still there", desk.crafts(), 2);
        CHECK.due("a time that can't be", Bits.squitter(2, 4, 0).seal().hear(desk, 1000000001), -1);
        CHECK.due("nobody goes by it", desk.crafts(), 2);
        CHECK.due("601 later, by a DF that isn't known", Bits.of(24).hear(desk, 701), -2);
        CHECK.due("gone", desk.crafts(), 1);
        CHECK.due("moved up", desk.craft(0, 0), 2);
        CHECK.due("its reply is a stranger's now", Bits.of(5).seal(1).hear(desk, 701), -4);
        CHECK.due("come again", Bits.of(11).set(9, 32, 1).seal().hear(desk, 702), 0);
        CHECK.due("behind the other", desk.find(1), 1);
        CHECK.due("as a new one", desk.craft(1, 2), 1);
        CHECK.due("as a new one", desk.craft(1, 6), UNKNOWN);
        CHECK.due("as a new one", desk.sign(1, 0), -1);
        CHECK.due("heard itself it goes first", Bits.of(11).set(9, 32, 1).seal().hear(desk, 1303), 0);
        CHECK.due("and comes as a new one", desk.craft(0, 2), 1);
        CHECK.due("alone", desk.crafts(), 1);
    }
}
