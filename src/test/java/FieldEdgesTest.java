/** Terms 2, with promises 7, 8 and 11: the edges of fields and bits. Each method has its sentence above it. */
public final class FieldEdgesTest {
    private static final Check CHECK = new Check();
    private static final int UNKNOWN = SquitterDesk.UNKNOWN;
    private static final int[] KNOWN = {0, 4, 5, 11, 16, 17, 18, 20, 21};
    /** What, its first and its last bit, then the DFs that have it. */
    private static final int[][] FIELDS = {
        {1, 6, 8, 11, 17, 18},
        {2, 6, 8, 4, 5, 20, 21}, {3, 9, 13, 4, 5, 20, 21}, {4, 14, 19, 4, 5, 20, 21},
        {5, 6, 6, 0, 16}, {6, 7, 7, 0}, {7, 9, 11, 0, 16}, {8, 14, 17, 0, 16},
        {9, 20, 32, 0, 4, 16, 20}, {10, 20, 32, 5, 21},
        {13, 33, 37, 17, 18}, {14, 38, 40, 17, 18},
    };

    public static void main(String[] args) {
        firstAndLastBits();
        fieldsThatAreNotThere();
        whats();
        aheadOfAny();
        asItWasPutRight();
        fromOneOn();
        howMany();
        allThere();
        shorterThanTheOneBefore();
        altitudes();
        squawks();
        CHECK.finish();
    }

    private static SquitterDesk deskOf(int address) {
        SquitterDesk desk = new SquitterDesk();
        Bits.of(11).set(9, 32, address).seal().hear(desk, 0);
        return desk;
    }

    private static boolean has(int[] field, int df) {
        for (int k = 3; k < field.length; k++) {
            if (field[k] == df) {
                return true;
            }
        }
        return false;
    }

    /** Bits 6 .. 40 of a frame are all 0 or all 1, ahead of the parity. */
    private static Bits filled(int df, int value) {
        return Bits.of(df).set(6, 32, value).set(33, 40, df < 16 ? 0 : value);
    }

    /** "FIELDS (first and last bit ...)": CA 6 8 and so on */
    private static void firstAndLastBits() {
        for (int[] field : FIELDS) {
            for (int df : KNOWN) {
                if (has(field, df)) {
                    oneField(field[0], field[1], field[2], df);
                }
            }
        }
    }

    private static void oneField(int what, int first, int last, int df) {
        int full = (1 << (last - first + 1)) - 1;
        String name = "DF " + df + " field(" + what + "): ";
        SquitterDesk desk = deskOf(0);
        CHECK.due(name + "hear", filled(df, 0).set(first, last, full).seal().hear(desk, 0), 0);
        CHECK.due(name + "its bits alone", desk.field(what), full);
        CHECK.due(name + "hear", filled(df, -1).set(first, last, 0).seal().hear(desk, 0), 0);
        CHECK.due(name + "all but its bits", desk.field(what), 0);
        filled(df, 0).turn(last).seal().hear(desk, 0);
        CHECK.due(name + "its last bit is the lowest", desk.field(what), 1);
        filled(df, 0).turn(first).seal().hear(desk, 0);
        CHECK.due(name + "its first bit is the highest", desk.field(what), (full + 1) / 2);
    }

    /** "NONE where a frame's DF has it not" */
    private static void fieldsThatAreNotThere() {
        for (int df : KNOWN) {
            SquitterDesk desk = deskOf(0);
            CHECK.due("DF " + df, filled(df, 0).seal().hear(desk, 0), 0);
            for (int[] field : FIELDS) {
                CHECK.due("DF " + df + " field(" + field[0] + ")", desk.field(field[0]), has(field, df) ? 0 : -1);
            }
            CHECK.due("DF " + df + " INTERROGATOR", desk.field(12), df == 11 ? 0 : -1);
            CHECK.due("DF " + df + " ADDRESS", desk.field(11), 0);
            CHECK.due("DF " + df + " the bit put right", desk.field(15), -1);
        }
    }

    /** "NONE ... for another what" */
    private static void whats() {
        SquitterDesk desk = new SquitterDesk();
        Bits.squitter(5, 31, 7).seal().turn(112).hear(desk, 0);
        CHECK.due("the first what", desk.field(0), 17);
        CHECK.due("the last what", desk.field(15), 112);
        for (int what : new int[] {-1, 16, UNKNOWN, 2147483647}) {
            CHECK.due("what " + what, desk.field(what), -1);
        }
    }

    /** "NONE ahead of any", "0 if ... there was none": also when all frames were refused */
    private static void aheadOfAny() {
        SquitterDesk desk = new SquitterDesk();
        nothingHeard("new", desk);
        Bits.squitter(5, 4, 0).seal().hear(desk, -1);
        Bits.of(24).seal().hear(desk, 1);
        Bits.squitter(5, 4, 0).seal(3).hear(desk, 1);
        Bits.of(4).seal(5).hear(desk, 1);
        nothingHeard("refused", desk);
    }

    private static void nothingHeard(String when, SquitterDesk desk) {
        for (int what = -1; what <= 16; what++) {
            CHECK.due(when + ": field(" + what + ")", desk.field(what), -1);
        }
        CHECK.due(when + ": bits(1, 1)", desk.bits(1, 1), 0);
        CHECK.due(when + ": bits(1, 32)", desk.bits(1, 32), 0);
        CHECK.due(when + ": bits(112, 1)", desk.bits(112, 1), 0);
    }

    /** "(as it was put right)", "15 the bit that was put right": from 6 to 112, and of this frame alone */
    private static void asItWasPutRight() {
        SquitterDesk desk = new SquitterDesk();
        CHECK.due("hear", Bits.squitter(5, 4, 0).seal().turn(6).hear(desk, 0), 1);
        CHECK.due("the first bit that can be", desk.field(15), 6);
        CHECK.due("CA as put right", desk.field(1), 5);
        CHECK.due("bits as put right", desk.bits(6, 3), 5);
        CHECK.due("hear", Bits.squitter(5, 4, 1).seal().turn(40).hear(desk, 0), 1);
        CHECK.due("SUB as put right", desk.field(14), 1);
        CHECK.due("CATEGORY as put right", desk.craft(0, 6), 11);
        CHECK.due("hear", Bits.of(17).set(9, 32, 5).seal().turn(112).hear(desk, 0), 1);
        CHECK.due("the last bit that can be", desk.field(15), 112);
        CHECK.due("bits as put right", desk.bits(89, 24), Bits.of(17).set(9, 32, 5).seal().word(2) << 16 & 0xFF0000
            | Bits.of(17).set(9, 32, 5).seal().word(3) >>> 16);
        CHECK.due("hear", Bits.squitter(5, 4, 0).seal().hear(desk, 0), 0);
        CHECK.due("none of this one", desk.field(15), -1);
    }

    private static SquitterDesk deskWithLongFrame() {
        SquitterDesk desk = new SquitterDesk();
        // 8D4840D6202CC371C32CE0576098, with bits that do not count behind it.
        desk.hear(0x8D4840D6, 0x202CC371, 0xC32CE057, 0x6098FFFF, 0);
        return desk;
    }

    /** "Bits are numbered from 1 on", "from one on" */
    private static void fromOneOn() {
        SquitterDesk desk = deskWithLongFrame();
        CHECK.due("the first bit", desk.bits(1, 1), 1);
        for (int from : new int[] {0, -1, -31, UNKNOWN}) {
            CHECK.due("one bit from " + from, desk.bits(from, 1), 0);
            CHECK.due("32 bits from " + from, desk.bits(from, 32), 0);
        }
        CHECK.due("from 0 into the frame", desk.bits(0, 2), 0);
    }

    /** "many of them (1 .. 32)" */
    private static void howMany() {
        SquitterDesk desk = deskWithLongFrame();
        CHECK.due("one", desk.bits(5, 1), 1);
        CHECK.due("32", desk.bits(1, 32), 0x8D4840D6);
        CHECK.due("32 over two numbers", desk.bits(2, 32), 0x1A9081AC);
        for (int many : new int[] {0, -1, 33, 64, UNKNOWN, 2147483647}) {
            CHECK.due(many + " of them", desk.bits(1, many), 0);
            CHECK.due(many + " of them from 5 on", desk.bits(5, many), 0);
        }
    }

    /** "0 if they are not all there" */
    private static void allThere() {
        SquitterDesk desk = deskWithLongFrame();
        CHECK.due("the last 32 of 112", desk.bits(81, 32), 0xE0576098);
        CHECK.due("one beyond", desk.bits(82, 32), 0);
        CHECK.due("the last four", desk.bits(109, 4), 8);
        CHECK.due("one beyond", desk.bits(109, 5), 0);
        CHECK.due("the 109th, which is 1", desk.bits(109, 1), 1);
        CHECK.due("the 113th, which is no bit", desk.bits(113, 1), 0);
        CHECK.due("far behind", desk.bits(2147483647, 1), 0);
        CHECK.due("far behind, many", desk.bits(2147483647, 32), 0);
        SquitterDesk other = new SquitterDesk();
        Bits.of(11).set(9, 32, 5).seal(127).set(57, 112, -1).litter().hear(other, 0);
        int parity = Bits.of(11).set(9, 32, 5).seal(127).word(1) >>> 8;
        CHECK.due("the last 24 of 56", other.bits(33, 24), parity);
        CHECK.due("one beyond", other.bits(33, 25), 0);
        CHECK.due("the last 32 of 56", other.bits(25, 32), 5 << 24 | parity);
        CHECK.due("one beyond", other.bits(26, 32), 0);
        CHECK.due("the 57th", other.bits(57, 1), 0);
    }

    /** The same, of a frame of 56 bits that came behind one of 112. */
    private static void shorterThanTheOneBefore() {
        SquitterDesk desk = deskWithLongFrame();
        CHECK.due("bits 58 and 59 of the long one", desk.bits(58, 2), 3);
        Bits.of(11).set(9, 32, 5).seal().hear(desk, 0);
        CHECK.due("no bit 57 any more", desk.bits(57, 1), 0);
        CHECK.due("nor 58 and 59", desk.bits(58, 2), 0);
        CHECK.due("nor a TYPE", desk.field(13), -1);
        desk.hear(0x8D4840D6, 0x202CC371, 0xC32CE057, 0x60980000, 0);
        CHECK.due("and there again", desk.bits(58, 2), 3);
    }

    private static void altitude(String bits, int due) {
        SquitterDesk desk = deskOf(5);
        int code = Integer.parseInt(bits.replace(" ", ""), 2);
        Bits.of(4).set(20, 32, code).seal(5).hear(desk, 0);
        CHECK.due("ALTITUDE of " + bits, desk.craft(0, 4), due);
    }

    /** "UNKNOWN if all are 0, or M is 1. With Q: ... UNKNOWN if h is 0, 5, 6; h 7 is 5; ..." */
    private static void altitudes() {
        // The bits in order: C1 A1 C2 A2 C4 A4, M, B1, Q, B2 D2 B4 D4.
        altitude("000000 0 0 0 0000", UNKNOWN);
        altitude("000000 1 0 0 0000", UNKNOWN);
        altitude("000000 1 0 1 0000", UNKNOWN);
        altitude("111111 1 1 1 1111", UNKNOWN);
        altitude("000000 0 0 1 0000", -1000);
        altitude("000000 0 0 1 0001", -975);
        altitude("000000 0 0 1 0010", -950);
        altitude("000000 0 0 1 0100", -900);
        altitude("000000 0 0 1 1000", -800);
        altitude("000000 0 1 1 0000", -600);
        altitude("000001 0 0 1 0000", -200);
        altitude("000010 0 0 1 0000", 600);
        altitude("100000 0 0 1 0000", 24600);
        altitude("111111 0 1 1 1111", 50175);
        // h by C1 C2 C4, g being 0: the codes of 0 .. 7.
        altitude("000001 0 0 0 0000", UNKNOWN);
        altitude("000010 0 0 0 0000", -1200);
        altitude("001010 0 0 0 0000", -1100);
        altitude("001000 0 0 0 0000", -1000);
        altitude("101000 0 0 0 0000", -900);
        altitude("101010 0 0 0 0000", UNKNOWN);
        altitude("100010 0 0 0 0000", UNKNOWN);
        altitude("100000 0 0 0 0000", -800);
        // g is 1 by B4 alone, so 6 - h: the same codes backwards.
        altitude("000010 0 0 0 0010", -300);
        altitude("001010 0 0 0 0010", -400);
        altitude("001000 0 0 0 0010", -500);
        altitude("101000 0 0 0 0010", -600);
        altitude("101010 0 0 0 0010", UNKNOWN);
        altitude("100010 0 0 0 0010", UNKNOWN);
        altitude("100000 0 0 0 0010", -700);
        // Each of g's bits alone, from B4 to D2: 1, 3, 7 and so on, the greatest 255; then all of them.
        altitude("100000 0 0 0 0010", -700);
        altitude("100000 0 0 0 1000", 300);
        altitude("100000 0 1 0 0000", 2300);
        altitude("100001 0 0 0 0000", 6300);
        altitude("100100 0 0 0 0000", 14300);
        altitude("110000 0 0 0 0000", 30300);
        altitude("100000 0 0 0 0001", 62300);
        altitude("100000 0 0 0 0100", 126300);
        altitude("000010 0 0 0 0100", 126700);
        altitude("010111 0 1 0 1111", 83800);
    }

    /** "SQUAWK: four digits as one number to ten": 0 .. 7777, and X doesn't count */
    private static void squawks() {
        int[][] cases = {
            {0, 0}, {0b0000001000000, 0}, {0b1111110111111, 7777}, {0b1111111111111, 7777},
            {0b0101010000000, 7000}, {0b0000000101010, 700}, {0b1010100000000, 70}, {0b0000000010101, 7},
            {0b0000010000000, 4000}, {0b0100000000000, 1000}, {0b0000000000001, 4}, {0b0000000010000, 1},
        };
        for (int[] one : cases) {
            SquitterDesk desk = deskOf(5);
            Bits.of(5).set(20, 32, one[0]).seal(5).hear(desk, 0);
            CHECK.due("SQUAWK of " + one[0], desk.craft(0, 5), one[1]);
        }
    }
}
