import java.math.BigInteger;

/** A frame that is written bit by bit, by the numbers that the document gives to bits. */
final class Bits {
    private static final BigInteger GENERATOR = new BigInteger("1111111111111010000001001", 2);

    private final char[] bits = "0".repeat(128).toCharArray();
    private final int length;

    private Bits(int df) {
        length = df < 16 ? 56 : 112;
        set(1, 5, df);
    }

    static Bits of(int df) {
        return new Bits(df);
    }

    /** A squitter of DF 17 with a TYPE and a SUB, not sealed yet. */
    static Bits squitter(int address, int type, int sub) {
        return of(17).set(6, 8, 5).set(9, 32, address).message(1, 5, type).message(6, 8, sub);
    }

    static Bits position(int address, int type, boolean odd, long code) {
        return squitter(address, type, 0).code(odd, code);
    }

    /** A position's ODD, Y and X. */
    Bits code(boolean odd, long code) {
        return message(22, 22, odd ? 1 : 0).message(23, 39, (int) (code >> 17)).message(40, 56, (int) (code & 131071));
    }

    Bits set(int first, int last, int value) {
        for (int i = last; i >= first; i--) {
            bits[i - 1] = (value & 1) == 1 ? '1' : '0';
            value >>>= 1;
        }
        return this;
    }

    Bits message(int first, int last, int value) {
        return set(32 + first, 32 + last, value);
    }

    Bits turn(int bit) {
        bits[bit - 1] = bits[bit - 1] == '1' ? '0' : '1';
        return this;
    }

    /** Writes the parity with which the syndrome is the one wanted. */
    Bits seal(int syndrome) {
        set(length - 23, length, 0);
        return set(length - 23, length, remainder(new String(bits, 0, length)) ^ syndrome);
    }

    Bits seal() {
        return seal(0);
    }

    /** Writes what no one should look at: behind a short frame's end, and the last 16 bits. */
    Bits litter() {
        for (int i = length; i < 128; i++) {
            bits[i] = '1';
        }
        return this;
    }

    int word(int k) {
        return Integer.parseUnsignedInt(new String(bits, 32 * k, 32), 2);
    }

    int hear(SquitterDesk desk, int time) {
        return desk.hear(word(0), word(1), word(2), word(3), time);
    }

    int syndrome(SquitterDesk desk) {
        return desk.syndrome(word(0), word(1), word(2), word(3));
    }

    int repair(SquitterDesk desk) {
        return desk.repair(word(0), word(1), word(2), word(3));
    }

    int sealedBy(SquitterDesk desk) {
        return desk.seal(word(0), word(1), word(2), word(3));
    }

    static int remainder(String text) {
        BigInteger rest = new BigInteger(text, 2);
        while (rest.bitLength() >= GENERATOR.bitLength()) {
            rest = rest.xor(GENERATOR.shiftLeft(rest.bitLength() - GENERATOR.bitLength()));
        }
        return rest.intValueExact();
    }
}
