import java.util.Random;

/** Promises 13 to 16: zones, encode, global and local. */
public final class CompactTest {
    private static final Check CHECK = new Check();
    private static final Model MODEL = new Model();
    private static final long NO_PLACE = Long.MIN_VALUE;

    public static void main(String[] args) {
        encodeExamples();
        globalExamples();
        localExamples();
        encodeAgainstModel();
        globalAgainstModel();
        localAgainstModel();
        CHECK.finish();
    }

    private static void encodeExamples() {
        CHECK.due("encode(0, 0)", SpareDesk.get().encode(0, 0, false, false), 0);
        CHECK.due("half a band", SpareDesk.get().encode(3000000, 0, false, false), 65536L << 17);
        CHECK.due("half a band down", SpareDesk.get().encode(-3000000, 0, false, false), 65536L << 17);
        CHECK.due("rounded up to the next band, told modulo", SpareDesk.get().encode(5999999, 0, false, false), 0);
        CHECK.due("just below 0", SpareDesk.get().encode(-1, -1, false, false), 0);
        CHECK.due("ground bands are a quarter", SpareDesk.get().encode(750000, 0, true, false), 65536L << 17);
        CHECK.due("one zone at the pole", SpareDesk.get().encode(90000000, 90000000, false, false), 32768);
        CHECK.due("one zone at the pole, odd", SpareDesk.get().encode(90000000, 90000000, false, true), (98304L << 17) + 32768);
        CHECK.due("one zone at the pole on the ground", SpareDesk.get().encode(90000000, 45000000, true, false), 65536);
        CHECK.due("above 87, one zone, rounded up", SpareDesk.get().encode(87000100, 180000000 - 1, false, false) & 131071, 65536);
    }

    private static void globalExamples() {
        CHECK.due("global(0, 0)", SpareDesk.get().global(0, 0, true), 0);
        long even = SpareDesk.get().encode(-33900000, 151200000, false, false);
        long odd = SpareDesk.get().encode(-33900000, 151200000, false, true);
        for (boolean byOdd : new boolean[] {false, true}) {
            long told = SpareDesk.get().global(even, odd, byOdd);
            CHECK.due("south and east", Math.abs((told >> 32) + 33900000) < 50, true);
            CHECK.due("south and east", Math.abs((int) told - 151200000) < 50, true);
        }
        even = SpareDesk.get().encode(10000000, -170000000, false, false);
        odd = SpareDesk.get().encode(10000000, -170000000, false, true);
        CHECK.due("west", Math.abs((int) SpareDesk.get().global(even, odd, true) + 170000000) < 50, true);
        CHECK.due("west", Math.abs((int) SpareDesk.get().global(even, odd, false) + 170000000) < 50, true);
        CHECK.due("90 degrees itself is one", SpareDesk.get().global(0, 98304L << 17, false), 90000000L << 32);
        CHECK.due("-90 degrees itself is one", SpareDesk.get().global(0, 32768L << 17, true), -90000000L << 32);
    }

    private static void localExamples() {
        CHECK.due("its own place", SpareDesk.get().local(0, false, false, 0, 0), 0);
        CHECK.due("90 from just below", SpareDesk.get().local(0, false, false, 89999999, 0), 90000000L << 32);
        CHECK.due("one step above 90", SpareDesk.get().local(1L << 17, false, false, 90000000, 0), NO_PLACE);
        CHECK.due("-90", SpareDesk.get().local(0, false, false, -90000000, 0), -90000000L << 32);
        CHECK.due("one step below -90", SpareDesk.get().local(131071L << 17, false, false, -90000000, 0), NO_PLACE);
        CHECK.due("half a band is below", SpareDesk.get().local(65536L << 17, false, false, 0, 0), 3000000L << 32);
        CHECK.due("more than half a band", SpareDesk.get().local(65537L << 17, false, false, 0, 0) < 0, true);
        CHECK.due("half a band from the middle", SpareDesk.get().local(0, false, false, 3000000, 0), 6000000L << 32);
        CHECK.due("a turn less", SpareDesk.get().local(0, false, false, 88000000, 179999999) & 0xFFFFFFFFL, 0);
        CHECK.due("180 is told as -180", SpareDesk.get().local(65536, false, false, 90000000, 179999999), (90000000L << 32) + (-180000000 & 0xFFFFFFFFL));
        CHECK.due("one step from -180 to the west", (int) SpareDesk.get().local(65535, false, false, 90000000, -180000000), 179997253);
        CHECK.due("on the ground, to the west of -180", (int) SpareDesk.get().local(131071, true, false, 90000000, -180000000), 179999313);
        CHECK.due("on the ground, to the east of 179.999999", (int) SpareDesk.get().local(1, true, false, 90000000, 179999999), -179999314);
    }

    private static int latitude(Random random) {
        String[] bounds = Model.BOUNDS.split(" ");
        switch (random.nextInt(4)) {
            case 0:
                long bound = Long.parseLong(bounds[random.nextInt(bounds.length)]) / 100;
                int near = (int) bound + random.nextInt(61) - 30;
                return random.nextBoolean() ? near : -near;
            case 1:
                return random.nextInt(31) * 6000000 - 90000000;
            case 2:
                return (random.nextBoolean() ? 1 : -1) * (90000000 - random.nextInt(4000000));
            default:
                return random.nextInt(180000001) - 90000000;
        }
    }

    private static int longitude(Random random) {
        switch (random.nextInt(3)) {
            case 0:
                return random.nextBoolean() ? 179999999 - random.nextInt(100) : -180000000 + random.nextInt(100);
            case 1:
                return (random.nextInt(720) - 360) * 500000;
            default:
                return random.nextInt(360000000) - 180000000;
        }
    }

    private static void encodeAgainstModel() {
        Random random = new Random(2);
        for (int i = 0; i < 20000; i++) {
            int latitude = latitude(random);
            int longitude = longitude(random);
            boolean ground = random.nextBoolean();
            boolean odd = random.nextBoolean();
            CHECK.due("encode(" + latitude + ", " + longitude + ", " + ground + ", " + odd + ")",
                SpareDesk.get().encode(latitude, longitude, ground, odd), MODEL.encode(latitude, longitude, ground, odd));
        }
    }

    private static long code(Random random) {
        long y = random.nextInt(4) == 0 ? 8192L * random.nextInt(16) : random.nextInt(131072);
        long x = random.nextInt(4) == 0 ? 8192L * random.nextInt(16) : random.nextInt(131072);
        return (y << 17) + x;
    }

    private static void globalAgainstModel() {
        Random random = new Random(3);
        int places = 0;
        for (int i = 0; i < 20000; i++) {
            long even = code(random);
            long odd = code(random);
            if (i % 2 == 0) {
                int latitude = latitude(random);
                int longitude = longitude(random);
                int moved = Math.max(-90000000, Math.min(90000000, latitude + random.nextInt(4001) - 2000));
                even = SpareDesk.get().encode(latitude, longitude, false, false);
                odd = SpareDesk.get().encode(moved, longitude, false, true);
            }
            boolean byOdd = random.nextBoolean();
            long due = MODEL.global(even, odd, byOdd);
            places += due == NO_PLACE ? 0 : 1;
            CHECK.due("global(" + even + ", " + odd + ", " + byOdd + ")", SpareDesk.get().global(even, odd, byOdd), due);
        }
        CHECK.due("enough pairs had a place", places > 5000 && places < 19000, true);
    }

    private static void localAgainstModel() {
        Random random = new Random(4);
        int places = 0;
        for (int i = 0; i < 20000; i++) {
            long told = code(random);
            boolean ground = random.nextBoolean();
            boolean odd = random.nextBoolean();
            int latitude = latitude(random);
            int longitude = longitude(random);
            long due = MODEL.local(told, ground, odd, latitude, longitude);
            places += due == NO_PLACE ? 0 : 1;
            CHECK.due("local(" + told + ", " + ground + ", " + odd + ", " + latitude + ", " + longitude + ")",
                SpareDesk.get().local(told, ground, odd, latitude, longitude), due);
        }
        CHECK.due("enough had a place", places > 10000 && places < 20000, true);
    }
}
