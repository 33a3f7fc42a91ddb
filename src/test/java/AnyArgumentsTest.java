import java.util.Random;

/** No call throws or runs on for ever, whatever it is given. */
public final class AnyArgumentsTest {
    private static final int[] EDGES = {
        0, 1, -1, 2, 5, 17, 18, 20, 32, 33, 56, 57, 112, 113, -2147483648, 2147483647,
        90000000, 90000001, -90000000, -90000001, 179999999, 180000000, -180000000, -180000001, 1000000000, 1000000001,
    };

    public static void main(String[] args) {
        Random random = new Random(5);
        long sum = 0;
        for (int run = 0; run < 2000; run++) {
            SquitterDesk desk = new SquitterDesk();
            for (int i = 0; i < 512; i++) {
                sum += call(desk, random);
            }
        }
        System.out.println("no call threw (" + sum + ")");
    }

    private static int any(Random random) {
        return random.nextBoolean() ? EDGES[random.nextInt(EDGES.length)] : random.nextInt();
    }

    private static long anyLong(Random random) {
        switch (random.nextInt(4)) {
            case 0: return any(random);
            case 1: return random.nextLong();
            case 2: return (1L << 34) - 1 + random.nextInt(2);
            default: return random.nextLong() >>> 30;
        }
    }

    private static long call(SquitterDesk desk, Random random) {
        int a = any(random);
        int b = any(random);
        int c = any(random);
        int d = any(random);
        boolean p = random.nextBoolean();
        boolean q = random.nextBoolean();
        switch (random.nextInt(16)) {
            case 0: return desk.syndrome(a, b, c, d);
            case 1: return desk.repair(a, b, c, d);
            case 2: return desk.seal(a, b, c, d);
            case 3: return desk.place(a, b) ? 1 : 0;
            case 4: return desk.hear(a, b, c, d, any(random));
            case 5: return desk.field(a);
            case 6: return desk.bits(a, b);
            case 7: return desk.crafts();
            case 8: return desk.find(a);
            case 9: return desk.craft(a, b);
            case 10: return desk.sign(a, b);
            case 11: return desk.zones(a);
            case 12: return desk.encode(a, b, p, q);
            case 13: return desk.global(anyLong(random), anyLong(random), p);
            case 14: return desk.local(anyLong(random), p, q, a, b);
            default: return Bits.squitter(a, b & 31, c & 7).code(p, anyLong(random)).seal().hear(desk, random.nextInt(2000));
        }
    }
}
