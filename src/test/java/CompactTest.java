import java.util.Random;

/** Promises 13 to 16: zones, encode, global and local. */
public final class CompactTest {
    private static final Check CHECK = new Check();
    private static final SquitterDesk DESK = new SquitterDesk();
    private static final Model MODEL = new Model();
    private static final long NO_PLACE = Long.MIN_VALUE;
    private static final long LAST_CODE = (1L << 34) - 1;

    public static void main(String[] args) {
        zones();
        wrongInputs();
        encodeExamples();
        globalExamples();
        localExamples();
        encodeAgainstModel();
        globalAgainstModel();
        localAgainstModel();
        CHECK.finish();
    }

    private static void zones() {
        String[] bounds = Model.BOUNDS.split(" ");
        for (int i = 0; i < bounds.length; i++) {
            long bound = Long.parseLong(bounds[i]);
            int below = (int) Math.floorDiv(bound, 100L);
            int n = 59 - i;
            boolean onIt = bound % 100 == 0;
            for (int side : new int[] {1, -1}) {
                CHECK.due("zones below the bound of " + n, DESK.zones(side * (below - 1)), n);
                CHECK.due("zones at the bound of " + n, DESK.zones(side * below), onIt && n != 2 ? n - 1 : n);
                CHECK.due("zones above the bound of " + n, DESK.zones(side * (below + 1)), n - 1);
            }
        }
        CHECK.due("zones(90000000)", DESK.zones(90000000), 1);
        CHECK.due("zones(-90000000)", DESK.zones(-90000000), 1);
        CHECK.due("zones(90000001)", DESK.zones(90000001), -1);
        CHECK.due("zones(-90000001)", DESK.zones(-90000001), -1);
        CHECK.due("zones(least)", DESK.zones(-2147483648), -1);
        CHECK.due("zones(greatest)", DESK.zones(2147483647), -1);
    }

    private static void wrongInputs() {
        int[][] places = {
            {90000001, 0}, {-90000001, 0}, {0, 180000000}, {0, -180000001},
            {-2147483648, 0}, {2147483647, 0}, {0, -2147483648}, {0, 2147483647},
        };
        for (int[] place : places) {
            for (int k = 0; k < 4; k++) {
                CHECK.due("encode of no place", DESK.encode(place[0], place[1], k > 1, k % 2 == 1), -1);
                CHECK.due("local from no place", DESK.local(0, k > 1, k % 2 == 1, place[0], place[1]), NO_PLACE);
            }
        }
        for (long code : new long[] {-1, LAST_CODE + 1, Long.MAX_VALUE, Long.MIN_VALUE}) {
            CHECK.due("global, even " + code, DESK.global(code, 0, false), NO_PLACE);
            CHECK.due("global, odd " + code, DESK.global(0, code, true), NO_PLACE);
            CHECK.due("local of " + code, DESK.local(code, false, false, 0, 0), NO_PLACE);
        }
        CHECK.due("local of the last code", DESK.local(LAST_CODE, false, false, 0, 0) == NO_PLACE, false);
        CHECK.due("global of the last codes", DESK.global(LAST_CODE, LAST_CODE, false) == NO_PLACE, false);
    }

    private static void encodeExamples() {
        CHECK.due("encode(0, 0)", DESK.encode(0, 0, false, false), 0);
        CHECK.due("half a band", DESK.encode(3000000, 0, false, false), 65536L << 17);
        CHECK.due("half a band down", DESK.encode(-3000000, 0, false, false), 65536L << 17);
        CHECK.due("rounded up to the next band, told modulo", DESK.encode(5999999, 0, false, false), 0);
        CHECK.due("just below 0", DESK.encode(-1, -1, false, false), 0);
        CHECK.due("ground bands are a quarter", DESK.encode(750000, 0, true, false), 65536L << 17);
        CHECK.due("one zone at the pole", DESK.encode(90000000, 90000000, false, false), 32768);
        CHECK.due("one zone at the pole, odd", DESK.encode(90000000, 90000000, false, true), (98304L << 17) + 32768);
        CHECK.due("one zone at the pole on the ground", DESK.encode(90000000, 45000000, true, false), 65536);
        CHECK.due("above 87, one zone, rounded up", DESK.encode(87000100, 180000000 - 1, false, false) & 131071, 65536);
    }

    private static void globalExamples() {
        CHECK.due("global(0, 0)", DESK.global(0, 0, true), 0);
        long even = DESK.encode(-33900000, 151200000, false, false);
        long odd = DESK.encode(-33900000, 151200000, false, true);
        for (boolean byOdd : new boolean[] {false, true}) {
            long told = DESK.global(even, odd, byOdd);
            CHECK.due("south and east", Math.abs((told >> 32) + 33900000) < 50, true);
            CHECK.due("south and east", Math.abs((int) told - 151200000) < 50, true);
        }
        even = DESK.encode(10000000, -170000000, false, false);
        odd = DESK.encode(10000000, -170000000, false, true);
        CHECK.due("west", Math.abs((int) DESK.global(even, odd, true) + 170000000) < 50, true);
        CHECK.due("west", Math.abs((int) DESK.global(even, odd, false) + 170000000) < 50, true);
        CHECK.due("90 degrees itself is one", DESK.global(0, 98304L << 17, false), 90000000L << 32);
        CHECK.due("-90 degrees itself is one", DESK.global(0, 32768L << 17, true), -90000000L << 32);
    }

    private static void localExamples() {
        CHECK.due("its own place", DESK.local(0, false, false, 0, 0), 0);
        CHECK.due("90 from just below", DESK.local(0, false, false, 89999999, 0), 90000000L << 32);
        CHECK.due("one step above 90", DESK.local(1L << 17, false, false, 90000000, 0), NO_PLACE);
        CHECK.due("-90", DESK.local(0, false, false, -90000000, 0), -90000000L << 32);
        CHECK.due("one step below -90", DESK.local(131071L << 17, false, false, -90000000, 0), NO_PLACE);
        CHECK.due("half a band is below", DESK.local(65536L << 17, false, false, 0, 0), 3000000L << 32);
        CHECK.due("more than half a band", DESK.local(65537L << 17, false, false, 0, 0) < 0, true);
        CHECK.due("half a band from the middle", DESK.local(0, false, false, 3000000, 0), 6000000L << 32);
        CHECK.due("a turn less", DESK.local(0, false, false, 88000000, 179999999) & 0xFFFFFFFFL, 0);
        CHECK.due("180 is told as -180", DESK.local(65536, false, false, 90000000, 179999999), (90000000L << 32) + (-180000000 & 0xFFFFFFFFL));
        CHECK.due("one step from -180 to the west", (int) DESK.local(65535, false, false, 90000000, -180000000), 179997253);
        CHECK.due("on the ground, to the west of -180", (int) DESK.local(131071, true, false, 90000000, -180000000), 179999313);
        CHECK.due("on the ground, to the east of 179.999999", (int) DESK.local(1, true, false, 90000000, 179999999), -179999314);
    }

    private static int latitude(Random random) {
        String[] bounds = Model.BOUNDS.split(" ");
        switch (random.nextInt(4)) {
            case 0:
                long bound = Long.parseLong(bounds[random.nextInt(bounds.length)]) / 100;
                int near = (int) bound + random.nextInt(61) - 30;
                return random.nextBoolean() ? near : -near;
            case 1:
                return random.nextInt(31) * 6000000 - 90000000;
            case 2:
                return (random.nextBoolean() ? 1 : -1) * (90000000 - random.nextInt(4000000));
            default:
                return random.nextInt(180000001) - 90000000;
        }
    }

    private static int longitude(Random random) {
        switch (random.nextInt(3)) {
            case 0:
                return random.nextBoolean() ? 179999999 - random.nextInt(100) : -180000000 + random.nextInt(100);
            case 1:
                return (random.nextInt(720) - 360) * 500000;
            default:
                return random.nextInt(360000000) - 180000000;
        }
    }

    private static void encodeAgainstModel() {
        Random random = new Random(2);
        for (int i = 0; i < 20000; i++) {
            int latitude = latitude(random);
            int longitude = longitude(random);
            boolean ground = random.nextBoolean();
            boolean odd = random.nextBoolean();
            CHECK.due("encode(" + latitude + ", " + longitude + ", " + ground + ", " + odd + ")",
                DESK.encode(latitude, longitude, ground, odd), MODEL.encode(latitude, longitude, ground, odd));
        }
    }

    private static long code(Random random) {
        long y = random.nextInt(4) == 0 ? 8192L * random.nextInt(16) : random.nextInt(131072);
        long x = random.nextInt(4) == 0 ? 8192L * random.nextInt(16) : random.nextInt(131072);
        return (y << 17) + x;
    }

    private static void globalAgainstModel() {
        Random random = new Random(3);
        int places = 0;
        for (int i = 0; i < 20000; i++) {
            long even = code(random);
            long odd = code(random);
            if (i % 2 == 0) {
                int latitude = latitude(random);
                int longitude = longitude(random);
                int moved = Math.max(-90000000, Math.min(90000000, latitude + random.nextInt(4001) - 2000));
                even = DESK.encode(latitude, longitude, false, false);
                odd = DESK.encode(moved, longitude, false, true);
            }
            boolean byOdd = random.nextBoolean();
            long due = MODEL.global(even, odd, byOdd);
            places += due == NO_PLACE ? 0 : 1;
            CHECK.due("global(" + even + ", " + odd + ", " + byOdd + ")", DESK.global(even, odd, byOdd), due);
        }
        CHECK.due("enough pairs had a place", places > 5000 && places < 19000, true);
    }

    private static void localAgainstModel() {
        Random random = new Random(4);
        int places = 0;
        for (int i = 0; i < 20000; i++) {
            long told = code(random);
            boolean ground = random.nextBoolean();
            boolean odd = random.nextBoolean();
            int latitude = latitude(random);
            int longitude = longitude(random);
            long due = MODEL.local(told, ground, odd, latitude, longitude);
            places += due == NO_PLACE ? 0 : 1;
            CHECK.due("local(" + told + ", " + ground + ", " + odd + ", " + latitude + ", " + longitude + ")",
                DESK.local(told, ground, odd, latitude, longitude), due);
        }
        CHECK.due("enough had a place", places > 10000 && places < 20000, true);
    }
}
