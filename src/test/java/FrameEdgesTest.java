/** Terms 1, with promises 2, 3, 4 and 6: the edges of frames. Each method has the sentence that it tests above it. */
public final class FrameEdgesTest {
    private static final Check CHECK = new Check();

    public static void main(String[] args) {
        upperHalfOfTheFourthNumber();
        lengthByFormat();
        remainderOf24Bits();
        parityIsNotLookedAt();
        knownFormats();
        syndromeOfSquitters();
        syndromeOfAllCalls();
        syndromeAsAddress();
        addressOfItsOwn();
        repairFromTheSixthBitOn();
        repairToTheLastBit();
        repairHasNone();
        CHECK.finish();
    }

    private static int lengthOf(int df) {
        return df < 16 ? 56 : 112;
    }

    private static Bits someFrame(int df) {
        return Bits.of(df).set(6, 32, 0x2ABCDE5);
    }

    private static int syndrome(Bits frame) {
        return frame.syndrome(SpareDesk.get());
    }

    private static int repair(Bits frame) {
        return frame.repair(SpareDesk.get());
    }

    private static int sealed(Bits frame) {
        return frame.sealedBy(SpareDesk.get());
    }

    private static int hear(Bits frame) {
        return frame.hear(new SquitterDesk(), 0);
    }

    /** "of the fourth one just the upper 16 count" */
    private static void upperHalfOfTheFourthNumber() {
        CHECK.due("syndrome: bit 112 counts", syndrome(someFrame(17).seal().turn(112)), 1);
        CHECK.due("repair: bit 112 counts", repair(someFrame(17).seal().turn(112)), 112);
        CHECK.due("hear: bit 112 counts", hear(someFrame(17).seal().turn(112)), 1);
        for (int bit : new int[] {113, 128}) {
            CHECK.due("syndrome: bit " + bit, syndrome(someFrame(17).seal().turn(bit)), 0);
            CHECK.due("repair: bit " + bit, repair(someFrame(17).seal().turn(bit)), -1);
            CHECK.due("hear: bit " + bit, hear(someFrame(17).seal().turn(bit)), 0);
            CHECK.due("seal: bit " + bit, sealed(someFrame(17).turn(bit)), sealed(someFrame(17)));
        }
    }

    /** "Frames of DF below 16 have 56 bits (the rest isn't looked at), others 112." */
    private static void lengthByFormat() {
        for (int df = 0; df < 32; df++) {
            int last = lengthOf(df);
            int sound = syndrome(someFrame(df));
            CHECK.due("DF " + df + ": the last bit counts", syndrome(someFrame(df).turn(last)), sound ^ 1);
            CHECK.due("DF " + df + ": the next one doesn't", syndrome(someFrame(df).turn(last + 1)), sound);
            CHECK.due("DF " + df + ": nor does any behind it", syndrome(someFrame(df).litter()), sound);
        }
        CHECK.due("DF 15 has 56 bits", syndrome(someFrame(15).seal().turn(57)), 0);
        CHECK.due("DF 16 has 112 bits", syndrome(someFrame(16).seal().turn(57)) == 0, false);
        CHECK.due("DF 11: nothing behind 56 bits is wrong", repair(someFrame(11).seal().litter()), -1);
        CHECK.due("DF 11: nothing behind 56 bits is wrong", hear(someFrame(11).seal().litter()), 0);
    }

    /** "the remainder of it ... by that of 25 bits 1111111111111010000001001 (24 bits)" */
    private static void remainderOf24Bits() {
        CHECK.due("a frame of 56 bits without any", SpareDesk.get().syndrome(0, 0, 0, 0), 0);
        for (int df : new int[] {0, 15, 16, 31}) {
            int n = lengthOf(df);
            Bits frame = Bits.of(df).seal();
            CHECK.due("DF " + df + ": power 0", syndrome(frame.turn(n)), 1);
            frame.turn(n);
            CHECK.due("DF " + df + ": power 23, the last that is its own remainder", syndrome(frame.turn(n - 23)), 0x800000);
            frame.turn(n - 23);
            CHECK.due("DF " + df + ": power 24, the first that isn't", syndrome(frame.turn(n - 24)), 0b111111111111010000001001);
        }
    }

    /** "The PARITY is its last 24 bits." and "what stands in its place isn't looked at" */
    private static void parityIsNotLookedAt() {
        for (int df = 0; df < 32; df++) {
            int n = lengthOf(df);
            int due = sealed(someFrame(df));
            CHECK.due("DF " + df + ": its last bit", sealed(someFrame(df).turn(n)), due);
            CHECK.due("DF " + df + ": its first bit", sealed(someFrame(df).turn(n - 23)), due);
            CHECK.due("DF " + df + ": all of it", sealed(someFrame(df).set(n - 23, n, -1)), due);
            CHECK.due("DF " + df + ": the bit ahead of it counts", sealed(someFrame(df).turn(n - 24)), due ^ 0xFFF409);
            CHECK.due("DF " + df + ": with it the syndrome is 0", syndrome(someFrame(df).set(n - 23, n, due)), 0);
        }
        CHECK.due("the least", SpareDesk.get().seal(0, -1, -1, -1), 0);
    }

    /** "Known DFS: 0, 4, 5, 11, 16, 17, 18, 20, 21." */
    private static void knownFormats() {
        int[] due = {
            -4, -2, -2, -2, -4, -4, -2, -2, -2, -2, -2, 0, -2, -2, -2, -2,
            -4, 0, 0, -2, -4, -4, -2, -2, -2, -2, -2, -2, -2, -2, -2, -2,
        };
        for (int df = 0; df < 32; df++) {
            CHECK.due("hear DF " + df, hear(Bits.of(df).seal()), due[df]);
        }
    }

    /** "Of DF 17, 18 the SYNDROME has to be 0" */
    private static void syndromeOfSquitters() {
        for (int df : new int[] {17, 18}) {
            CHECK.due("DF " + df + " of 0 is sound", hear(someFrame(df).seal(0)), 0);
            CHECK.due("DF " + df + " of 0 needs no repair", repair(someFrame(df).seal(0)), -1);
            CHECK.due("DF " + df + " of 1 is put right", hear(someFrame(df).seal(1)), 1);
            CHECK.due("DF " + df + " of 1 has bit 112", repair(someFrame(df).seal(1)), 112);
            CHECK.due("DF " + df + " of 3 can't be", hear(someFrame(df).seal(3)), -3);
            CHECK.due("DF " + df + " of 127 can't be, though one of DF 11 can", hear(someFrame(df).seal(127)), -3);
            CHECK.due("DF " + df + " of the greatest can't be", hear(someFrame(df).seal(0xFFFFFF)), -3);
        }
    }

    /** "of DF 11 below 128 (that is its INTERROGATOR)" */
    private static void syndromeOfAllCalls() {
        for (int interrogator : new int[] {0, 1, 64, 126, 127}) {
            SquitterDesk desk = new SquitterDesk();
            CHECK.due("DF 11 of " + interrogator, someFrame(11).seal(interrogator).hear(desk, 0), 0);
            CHECK.due("INTERROGATOR " + interrogator, desk.field(12), interrogator);
            CHECK.due("DF 11 of " + interrogator + " needs no repair", repair(someFrame(11).seal(interrogator)), -1);
        }
        SquitterDesk desk = new SquitterDesk();
        CHECK.due("DF 11 of 128 is put right", someFrame(11).seal(128).hear(desk, 0), 1);
        CHECK.due("its INTERROGATOR then", desk.field(12), 0);
        CHECK.due("its bit", desk.field(15), 49);
        CHECK.due("DF 11 of 128 has bit 49", repair(someFrame(11).seal(128)), 49);
        CHECK.due("DF 11 of 129 can't be", hear(someFrame(11).seal(129)), -3);
        CHECK.due("DF 11 of 129 has no bit", repair(someFrame(11).seal(129)), -1);
        CHECK.due("DF 11 of the greatest can't be", hear(someFrame(11).seal(0xFFFFFF)), -3);
    }

    /** "of others it is the ADDRESS" */
    private static void syndromeAsAddress() {
        for (int df : new int[] {0, 4, 5, 16, 20, 21}) {
            for (int address : new int[] {0, 1, 127, 128, 0x800000, 0xFFFFFF}) {
                SquitterDesk desk = new SquitterDesk();
                Bits.of(11).set(9, 32, address).seal().hear(desk, 0);
                CHECK.due("DF " + df + " of a craft", someFrame(df).seal(address).hear(desk, 0), 0);
                CHECK.due("its ADDRESS", desk.field(11), address);
                CHECK.due("DF " + df + " of another", someFrame(df).seal(address ^ 1).hear(desk, 0), -4);
            }
        }
    }

    /** "Of DF 11, 17, 18 the ADDRESS is bits 9 .. 32." */
    private static void addressOfItsOwn() {
        for (int df : new int[] {11, 17, 18}) {
            SquitterDesk desk = new SquitterDesk();
            CHECK.due("DF " + df, Bits.of(df).set(9, 32, 0xFFFFFF).seal().hear(desk, 0), 0);
            CHECK.due("all of its bits", desk.field(11), 0xFFFFFF);
            CHECK.due("the craft's", desk.craft(0, 0), 0xFFFFFF);
            CHECK.due("DF " + df, Bits.of(df).set(6, 8, 7).set(33, 40, 0xFF).seal().hear(desk, 0), 0);
            CHECK.due("none of its bits", desk.field(11), 0);
            CHECK.due("the craft's", desk.craft(1, 0), 0);
            for (int bit : new int[] {9, 32}) {
                Bits.of(df).turn(bit).seal().hear(desk, 0);
                CHECK.due("bit " + bit, desk.field(11), 1 << (32 - bit));
            }
        }
    }

    /** "the bit, from the 6th on, which being turned makes the SYNDROME 0 is turned" */
    private static void repairFromTheSixthBitOn() {
        for (int df : new int[] {11, 17, 18}) {
            int n = lengthOf(df);
            int fifth = Bits.remainder("1" + "0".repeat(n - 5));
            int sixth = Bits.remainder("1" + "0".repeat(n - 6));
            CHECK.due("DF " + df + ": the 6th bit", repair(someFrame(df).seal(sixth)), 6);
            CHECK.due("DF " + df + ": the 6th bit", hear(someFrame(df).seal(sixth)), 1);
            CHECK.due("DF " + df + ": the 5th bit", repair(someFrame(df).seal(fifth)), -1);
            CHECK.due("DF " + df + ": the 5th bit", hear(someFrame(df).seal(fifth)), -3);
        }
    }

    /** The same at the other end; a wrong bit of DF 11 from the 50th on leaves a syndrome that can be. */
    private static void repairToTheLastBit() {
        for (int df : new int[] {17, 18}) {
            CHECK.due("DF " + df + ": bit 111", repair(someFrame(df).seal().turn(111)), 111);
            CHECK.due("DF " + df + ": bit 112", repair(someFrame(df).seal().turn(112)), 112);
        }
        CHECK.due("DF 11: bit 49", repair(someFrame(11).seal().turn(49)), 49);
        CHECK.due("DF 11: bit 49", hear(someFrame(11).seal().turn(49)), 1);
        for (int bit = 50; bit <= 57; bit++) {
            CHECK.due("DF 11: bit " + bit, repair(someFrame(11).seal().turn(bit)), -1);
            CHECK.due("DF 11: bit " + bit, hear(someFrame(11).seal().turn(bit)), 0);
        }
    }

    /** "NONE if it is of another DF, needs none, or there is none." */
    private static void repairHasNone() {
        for (int df = 0; df < 32; df++) {
            int due = df == 11 || df == 17 || df == 18 ? 30 : -1;
            CHECK.due("DF " + df + " with one wrong bit", repair(someFrame(df).seal().turn(30)), due);
            CHECK.due("DF " + df + " with none", repair(someFrame(df).seal()), -1);
            CHECK.due("DF " + df + " with two", repair(someFrame(df).seal().turn(30).turn(31)), -1);
        }
    }
}
