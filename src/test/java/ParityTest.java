import java.util.Random;

/** Promises 2, 3 and 4: syndrome, repair and seal. */
public final class ParityTest {
    private static final Check CHECK = new Check();

    public static void main(String[] args) {
        known();
        lengths();
        againstModel();
        everyBit(17);
        everyBit(18);
        allCall();
        wrongFormat();
        twoWrongBits();
        otherFormats();
        CHECK.finish();
    }

    private static void known() {
        CHECK.due("8D4840D6202CC371C32CE0576098", SpareDesk.get().syndrome(0x8D4840D6, 0x202CC371, 0xC32CE057, 0x60980000), 0);
        CHECK.due("its seal", SpareDesk.get().seal(0x8D4840D6, 0x202CC371, 0xC32CE000, 0), 0x576098);
        CHECK.due("5D484FDEA248F5, an all-call of interrogator 22", SpareDesk.get().syndrome(0x5D484FDE, 0xA248F500, 0, 0), 22);
        CHECK.due("all zero", SpareDesk.get().syndrome(0, 0, 0, 0), 0);
        CHECK.due("last bit of 56", SpareDesk.get().syndrome(0, 0x100, 0, 0), 1);
        CHECK.due("bit 32 of 56", SpareDesk.get().syndrome(1, 0, 0, 0), 0xFFF409);
        CHECK.due("last bit of 112", SpareDesk.get().syndrome(0x80000000, 0, 0, 0x10000) ^ SpareDesk.get().syndrome(0x80000000, 0, 0, 0), 1);
    }

    private static void lengths() {
        CHECK.due("behind 56 bits", SpareDesk.get().syndrome(0x7FFFFFFF, 0xFF, -1, -1), SpareDesk.get().syndrome(0x7FFFFFFF, 0, 0, 0));
        CHECK.due("behind 56 bits", SpareDesk.get().seal(0x7FFFFFFF, -1, -1, -1), SpareDesk.get().seal(0x7FFFFFFF, 0, 0, 0));
        CHECK.due("behind 112 bits", SpareDesk.get().syndrome(0x80000000, 0, 0, 0xFFFF), SpareDesk.get().syndrome(0x80000000, 0, 0, 0));
        CHECK.due("in the parity's place", SpareDesk.get().seal(0x80000000, 5, 0x7FF, -1), SpareDesk.get().seal(0x80000000, 5, 0x700, 0));
        CHECK.due("ahead of the parity", SpareDesk.get().seal(0x80000000, 5, 0x7FF, -1) == SpareDesk.get().seal(0x80000000, 5, 0x6FF, -1), false);
    }

    private static void againstModel() {
        Model model = new Model();
        Random random = new Random(1);
        for (int i = 0; i < 3000; i++) {
            int a = random.nextInt();
            int b = random.nextInt();
            int c = random.nextInt();
            int d = random.nextInt();
            String frame = a + ", " + b + ", " + c + ", " + d + ")";
            CHECK.due("syndrome(" + frame, SpareDesk.get().syndrome(a, b, c, d), model.syndrome(a, b, c, d));
            CHECK.due("seal(" + frame, SpareDesk.get().seal(a, b, c, d), model.seal(a, b, c, d));
            if (i < 300) {
                CHECK.due("repair(" + frame, SpareDesk.get().repair(a, b, c, d), model.repair(a, b, c, d));
            }
        }
    }

    private static void everyBit(int df) {
        Bits frame = Bits.of(df).set(6, 8, 5).set(9, 32, 0xABCDEF).message(1, 5, 31).message(9, 30, 12345).seal();
        CHECK.due("nothing to repair", frame.repair(SpareDesk.get()), -1);
        CHECK.due("sealed", frame.syndrome(SpareDesk.get()), 0);
        for (int bit = 6; bit <= 112; bit++) {
            CHECK.due("DF " + df + " bit " + bit, frame.turn(bit).repair(SpareDesk.get()), bit);
            frame.turn(bit);
        }
        for (int bit = 1; bit <= 5; bit++) {
            CHECK.due("DF's own bit " + bit, frame.turn(bit).repair(SpareDesk.get()), -1);
            frame.turn(bit);
        }
        CHECK.due("litter is not looked at", frame.litter().repair(SpareDesk.get()), -1);
    }

    private static void allCall() {
        for (int interrogator : new int[] {0, 1, 64, 127}) {
            CHECK.due("interrogator " + interrogator, Bits.of(11).set(9, 32, 77).seal(interrogator).repair(SpareDesk.get()), -1);
        }
        CHECK.due("syndrome 128 is bit 49", Bits.of(11).set(9, 32, 77).seal(128).repair(SpareDesk.get()), 49);
        CHECK.due("syndrome 129", Bits.of(11).set(9, 32, 77).seal(129).repair(SpareDesk.get()), -1);
        for (int bit = 1; bit <= 56; bit++) {
            int due = bit < 6 || bit > 49 ? -1 : bit;
            CHECK.due("DF 11 bit " + bit, Bits.of(11).set(9, 32, 77).seal().turn(bit).litter().repair(SpareDesk.get()), due);
        }
    }

    /** The bits of DF are never put right, though turning one of them would make the syndrome 0. */
    private static void wrongFormat() {
        for (int bit = 1; bit <= 5; bit++) {
            for (int df : new int[] {11, 17, 18}) {
                int ofBit = Bits.remainder("1" + "0".repeat((df == 11 ? 56 : 112) - bit));
                Bits frame = Bits.of(df).set(9, 32, 77).seal(ofBit);
                CHECK.due("DF " + df + " with a wrong bit " + bit, frame.repair(SpareDesk.get()), -1);
                CHECK.due("DF " + df + " heard with a wrong bit " + bit, frame.hear(new SquitterDesk(), 0), -3);
            }
        }
    }

    private static void twoWrongBits() {
        for (int bit = 6; bit < 112; bit++) {
            CHECK.due("bits " + bit + " and the next", Bits.squitter(3, 4, 0).seal().turn(bit).turn(bit + 1).repair(SpareDesk.get()), -1);
        }
    }

    private static void otherFormats() {
        for (int df = 0; df < 32; df++) {
            if (df != 11 && df != 17 && df != 18) {
                CHECK.due("DF " + df, Bits.of(df).seal().turn(40).repair(SpareDesk.get()), -1);
            }
            Bits frame = Bits.of(df).set(6, 30, 0x155AA55).seal();
            CHECK.due("DF " + df + " sealed", frame.syndrome(SpareDesk.get()), 0);
            CHECK.due("DF " + df + " seal", frame.sealedBy(SpareDesk.get()), df < 16
                ? (frame.word(1) >>> 8) & 0xFFFFFF
                : ((frame.word(2) << 16) | (frame.word(3) >>> 16)) & 0xFFFFFF);
        }
    }
}
