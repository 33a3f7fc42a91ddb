/** Terms 4, with promises 13 to 16: the edges of compact positions. Each method has its sentence above it. */
public final class CompactEdgesTest {
    private static final Check CHECK = new Check();
    private static final long NO_PLACE = Place.NO_PLACE;
    private static final int LAST_STEP = Place.LAST_STEP;
    private static final long LAST_CODE = Place.LAST_CODE;
    private static final int LEAST = -2147483648;
    private static final int GREATEST = 2147483647;
    private static final boolean[] BOTH = {false, true};

    public static void main(String[] args) {
        latitudes();
        longitudes();
        encodedNumbers();
        boundsInMillionths();
        boundOfTwo();
        boundsAtDecodedLatitudes();
        nearestStep();
        stepsModulo();
        zonesByTheDecodedLatitude();
        oneZoneAtLeast();
        globalBandHalves();
        globalBandModulo();
        globalBeyondPoles();
        globalZonesNotTheSame();
        globalZoneHalves();
        globalZoneModulo();
        globalHalfTurn();
        localBandHalves();
        localBeyondPoles();
        localZoneHalves();
        localTurns();
        cutDownwards();
        CHECK.finish();
    }

    private static void dueGlobal(long even, long odd, long byEven, long byOdd) {
        CHECK.due("global(" + even + ", " + odd + ", false)", SpareDesk.get().global(even, odd, false), byEven);
        CHECK.due("global(" + even + ", " + odd + ", true)", SpareDesk.get().global(even, odd, true), byOdd);
    }

    private static void dueLocal(long told, boolean ground, boolean odd, int latitude, int longitude, long due) {
        CHECK.due("local(" + told + ", " + ground + ", " + odd + ", " + latitude + ", " + longitude + ")",
            SpareDesk.get().local(told, ground, odd, latitude, longitude), due);
    }

    private static void dueCode(int latitude, int longitude, boolean ground, boolean odd, long due) {
        CHECK.due("encode(" + latitude + ", " + longitude + ", " + ground + ", " + odd + ")",
            SpareDesk.get().encode(latitude, longitude, ground, odd), due);
    }

    private static void duePlace(int latitude, int longitude, boolean due) {
        String place = "(" + latitude + ", " + longitude + ")";
        CHECK.due("place" + place, SpareDesk.get().place(latitude, longitude), due);
        for (boolean ground : BOTH) {
            for (boolean odd : BOTH) {
                CHECK.due("encode" + place, SpareDesk.get().encode(latitude, longitude, ground, odd) != -1, due);
                if (!due) {
                    dueLocal(0, ground, odd, latitude, longitude, NO_PLACE);
                }
            }
        }
    }

    /** "latitudes -90000000 .. 90000000", "NONE if it is none" */
    private static void latitudes() {
        int[] in = {-90000000, -89999999, 0, 89999999, 90000000};
        int[] zones = {1, 1, 59, 1, 1};
        for (int i = 0; i < in.length; i++) {
            duePlace(in[i], 0, true);
            CHECK.due("zones(" + in[i] + ")", SpareDesk.get().zones(in[i]), zones[i]);
        }
        for (int out : new int[] {-90000001, 90000001, LEAST, GREATEST}) {
            duePlace(out, 0, false);
            CHECK.due("zones(" + out + ")", SpareDesk.get().zones(out), -1);
        }
        dueLocal(0, false, false, 90000000, 0, Place.told(90000000, 0));
        dueLocal(0, false, false, -90000000, 0, Place.told(-90000000, 0));
        dueLocal(0, true, true, 90000000, 0, Place.told(90000000, 0));
        dueLocal(0, true, true, -90000000, 0, Place.told(-90000000, 0));
    }

    /** "longitudes -180000000 .. 179999999" */
    private static void longitudes() {
        for (int in : new int[] {-180000000, -179999999, 0, 179999998, 179999999}) {
            duePlace(0, in, true);
        }
        for (int out : new int[] {-180000001, 180000000, LEAST, GREATEST}) {
            duePlace(0, out, false);
        }
        duePlace(90000001, 180000000, false);
        dueLocal(65536, false, false, 0, -180000000, Place.told(0, -180000000));
        dueLocal(65536, false, false, 0, 179999999, Place.told(0, -180000000));
        dueCode(90000000, -180000000, false, false, 65536);
        dueCode(90000000, 179999999, false, false, 65536);
        dueCode(-90000000, 179999999, false, true, Place.code(32768, 65536));
    }

    /** "or one is no such number (0 .. 2^34 - 1)", "or no such number or place" */
    private static void encodedNumbers() {
        dueGlobal(0, 0, 0, 0);
        dueGlobal(LAST_CODE, LAST_CODE, Place.told(-46, -47), Place.told(-47, -48));
        dueGlobal(LAST_CODE, 0, Place.told(-46, -47), 0);
        dueGlobal(0, LAST_CODE, 0, Place.told(-47, -48));
        for (boolean ground : BOTH) {
            for (boolean odd : BOTH) {
                dueLocal(0, ground, odd, 0, 0, 0);
                int latitude = ground ? -12 : odd ? -47 : -46;
                int longitude = ground ? -12 : odd ? -48 : -47;
                dueLocal(LAST_CODE, ground, odd, 0, 0, Place.told(latitude, longitude));
            }
        }
        for (long out : new long[] {-1, LAST_CODE + 1, Long.MIN_VALUE, Long.MAX_VALUE}) {
            dueGlobal(out, 0, NO_PLACE, NO_PLACE);
            dueGlobal(0, out, NO_PLACE, NO_PLACE);
            dueGlobal(out, out, NO_PLACE, NO_PLACE);
            for (boolean ground : BOTH) {
                dueLocal(out, ground, false, 0, 0, NO_PLACE);
                dueLocal(out, ground, true, 0, 0, NO_PLACE);
            }
        }
    }

    private static long bound(int n) {
        return Long.parseLong(Model.BOUNDS.split(" ")[59 - n]);
    }

    /** "the greatest n, 59 .. 2, whose bound its size is below": no bound but that of 2 is a whole millionth */
    private static void boundsInMillionths() {
        for (int n = 59; n >= 3; n--) {
            int last = (int) (bound(n) / 100);
            for (int side : new int[] {1, -1}) {
                CHECK.due("the last of " + n, SpareDesk.get().zones(side * last), n);
                CHECK.due("the first of " + (n - 1), SpareDesk.get().zones(side * (last + 1)), n - 1);
            }
        }
        CHECK.due("zones(0)", SpareDesk.get().zones(0), 59);
    }

    /** "(of n = 2: not above), 1 without" */
    private static void boundOfTwo() {
        for (int side : new int[] {1, -1}) {
            CHECK.due("below it", SpareDesk.get().zones(side * 86999999), 2);
            CHECK.due("at it", SpareDesk.get().zones(side * 87000000), 2);
            CHECK.due("above it", SpareDesk.get().zones(side * 87000001), 1);
        }
        // Decoded, 87 degrees is a whole step of even positions: one step below half a zone tells how many there are.
        dueLocal(Place.code(65536, 65535), false, false, 87000000, 0, Place.told(87000000, 89998626));
        dueLocal(Place.code(65537, 65535), false, false, 87000000, 0, Place.told(87000045, 179997253));
        dueLocal(Place.code(0, 65535), true, false, 87000000, 0, Place.told(87000000, 22499656));
        dueLocal(Place.code(1, 65535), true, false, 87000000, 0, Place.told(87000011, 44999313));
    }

    /** "in hundred-millionths of a degree": the last step below each bound, and the first one that isn't */
    private static void boundsAtDecodedLatitudes() {
        for (int n = 59; n >= 2; n--) {
            for (boolean ground : BOTH) {
                for (boolean odd : BOTH) {
                    long turn = ground ? 9000000000L : 36000000000L;
                    long bands = odd ? 59 : 60;
                    long steps = bound(n) * bands * 131072;
                    long last = n == 2 ? steps / turn : (steps - 1) / turn;
                    dueZones(last, ground, odd, n);
                    dueZones(last + 1, ground, odd, n - 1);
                }
            }
        }
    }

    private static void dueZones(long step, boolean ground, boolean odd, int zones) {
        long turn = ground ? 90000000 : 360000000;
        long bands = odd ? 59 : 60;
        int latitude = (int) (turn * step / (bands * 131072));
        int n = Math.max(1, odd ? zones - 1 : zones);
        int longitude = (int) (turn * 65535 / (n * 131072L));
        dueLocal(Place.code(step % 131072, 65535), ground, odd, latitude, 0, Place.told(latitude, longitude));
        int south = (int) Math.floorDiv(-turn * step, bands * 131072);
        dueLocal(Place.code(Math.floorMod(-step, 131072), 65535), ground, odd, south, 0, Place.told(south, longitude));
    }

    /** "Y the fraction times 2^17, to the nearest": no latitude or longitude of the face lies halfway */
    private static void nearestStep() {
        int[] lastOfY = {22, 23, 5, 5};
        int[] lastOfX = {23, 23, 5, 5};
        for (int k = 0; k < 4; k++) {
            boolean ground = k > 1;
            boolean odd = k % 2 == 1;
            dueCode(lastOfY[k], 0, ground, odd, 0);
            dueCode(lastOfY[k] + 1, 0, ground, odd, Place.code(1, 0));
            dueCode(-lastOfY[k], 0, ground, odd, 0);
            dueCode(-lastOfY[k] - 1, 0, ground, odd, Place.code(LAST_STEP, 0));
            dueCode(0, lastOfX[k], ground, odd, 0);
            dueCode(0, lastOfX[k] + 1, ground, odd, 1);
            dueCode(0, -lastOfX[k], ground, odd, 0);
            dueCode(0, -lastOfX[k] - 1, ground, odd, LAST_STEP);
        }
    }

    /** "Y and X are told modulo 2^17." */
    private static void stepsModulo() {
        int[] firstOfY = {5999978, 6101672, 1499995, 1525418};
        int[] firstOfX = {6101672, 6206873, 1525418, 1551719};
        for (int k = 0; k < 4; k++) {
            boolean ground = k > 1;
            boolean odd = k % 2 == 1;
            dueCode(firstOfY[k] - 1, 0, ground, odd, Place.code(LAST_STEP, 0));
            dueCode(firstOfY[k], 0, ground, odd, 0);
            dueCode(0, firstOfX[k] - 1, ground, odd, LAST_STEP);
            dueCode(0, firstOfX[k], ground, odd, 0);
        }
    }

    /** "As decoded it is z (k + Y / 2^17); n is ... NL of that": not of the latitude itself */
    private static void zonesByTheDecodedLatitude() {
        // The bound of 59 is 10470471.3 millionths.
        dueCode(10470451, 100000000, false, false, Place.code(97658, 50972));
        dueCode(10470452, 100000000, false, false, Place.code(97659, 14564));
        dueCode(10470459, 100000000, false, true, Place.code(93846, 14564));
        dueCode(10470460, 100000000, false, true, Place.code(93847, 109227));
        dueCode(10470468, 100000000, true, false, Place.code(128491, 72818));
        dueCode(10470469, 100000000, true, false, Place.code(128492, 58254));
        dueCode(10470476, 100000000, true, true, Place.code(113243, 58254));
        dueCode(10470477, 100000000, true, true, Place.code(113244, 43691));
        // 87 degrees is a whole step, which the latitudes next to it go to.
        dueCode(87000022, 40000000, false, false, Place.code(65536, 29127));
        dueCode(87000023, 40000000, false, false, Place.code(65537, 14564));
        dueCode(87000005, 40000000, true, false, Place.code(0, 116508));
        dueCode(87000006, 40000000, true, false, Place.code(1, 58254));
        // Here Y is 2^17, which is told as 0 and still is the next band as decoded.
        dueCode(86999994, 40000000, true, false, Place.code(LAST_STEP, 116508));
        dueCode(86999995, 40000000, true, false, Place.code(0, 116508));
    }

    /** "n is the greater one of 1 and NL of that less p", "n is the greater one of 1 and NL - p" */
    private static void oneZoneAtLeast() {
        dueCode(86000000, 100000000, false, true, Place.code(12379, 72818));
        dueCode(87000000, 100000000, false, false, Place.code(65536, 72818));
        dueCode(87000000, 100000000, false, true, Place.code(33860, 36409));
        dueCode(88000000, 100000000, false, false, Place.code(87381, 36409));
        dueCode(88000000, 100000000, false, true, Place.code(55342, 36409));
        dueCode(88000000, 100000000, true, true, Place.code(90294, 14564));
        dueLocal(Place.code(33860, 65535), false, true, 87000000, 0, Place.told(86999987, 179997253));
        dueLocal(Place.code(33861, 65535), false, true, 87000000, 0, Place.told(87000034, 179997253));
        long byOdd = Place.told(90000000, 179997253);
        dueGlobal(Place.code(0, 65535), Place.code(98304, 65535), byOdd, byOdd);
    }

    /** "j is (59 Y0 - 60 Y1) / 2^17 + 1/2, downwards" */
    private static void globalBandHalves() {
        // 59 times 1124 less 60 times 13 is half of 2^17.
        dueGlobal(Place.code(1124, 0), Place.code(13, 0), Place.told(6051452, 0), Place.told(6102300, 0));
        dueGlobal(Place.code(1123, 0), Place.code(13, 0), Place.told(51406, 0), Place.told(605, 0));
    }

    /** "(j modulo 60 - p, ...), less 360 if it is 270 or more" */
    private static void globalBandModulo() {
        dueGlobal(0, 0, 0, 0);
        // j is -1 from a Y1 of 1093 on, which is band 59 of the even ones and 58 of the odd ones.
        dueGlobal(0, Place.code(1092, 0), 0, Place.told(50835, 0));
        dueGlobal(0, Place.code(1093, 0), Place.told(-6000000, 0), Place.told(-6050814, 0));
        // 270 degrees is -90; one step less would be above 90.
        dueGlobal(0, Place.code(32768, 0), Place.told(-90000000, 0), Place.told(-90000000, 0));
        dueGlobal(Place.code(1, 0), Place.code(32768, 0), Place.told(-89999955, 0), Place.told(-90000000, 0));
        dueGlobal(Place.code(LAST_STEP, 0), Place.code(32768, 0), NO_PLACE, NO_PLACE);
    }

    /** "None if one is above 90 or below -90" */
    private static void globalBeyondPoles() {
        dueGlobal(0, Place.code(98304, 0), Place.told(90000000, 0), Place.told(90000000, 0));
        dueGlobal(Place.code(LAST_STEP, 0), Place.code(98304, 0), Place.told(89999954, 0), Place.told(90000000, 0));
        dueGlobal(0, Place.code(98303, 0), Place.told(90000000, 0), Place.told(89999953, 0));
        dueGlobal(Place.code(1, 0), Place.code(98304, 0), NO_PLACE, NO_PLACE);
        dueGlobal(0, Place.code(98305, 0), NO_PLACE, NO_PLACE);
        dueGlobal(0, Place.code(32769, 0), Place.told(-90000000, 0), Place.told(-89999954, 0));
        dueGlobal(0, Place.code(32767, 0), NO_PLACE, NO_PLACE);
    }

    /** "or their NLs are not the same" */
    private static void globalZonesNotTheSame() {
        // On both sides of the bound of 59, then of the bound of 2.
        sameZones(97658, 93846, Place.told(10470428, 46552), Place.told(10470436, 47354),
            Place.told(10470474, 47354), Place.told(10470482, 48185));
        sameZones(65536, 33860, Place.told(87000000, 1373291), Place.told(86999987, 2746582),
            Place.told(87000045, 2746582), Place.told(87000034, 2746582));
    }

    private static void sameZones(long evenY, long oddY, long even, long odd, long nextEven, long nextOdd) {
        dueGlobal(Place.code(evenY, 1000), Place.code(oddY, 1000), even, odd);
        dueGlobal(Place.code(evenY + 1, 1000), Place.code(oddY, 1000), NO_PLACE, NO_PLACE);
        dueGlobal(Place.code(evenY, 1000), Place.code(oddY + 1, 1000), NO_PLACE, NO_PLACE);
        dueGlobal(Place.code(evenY + 1, 1000), Place.code(oddY + 1, 1000), nextEven, nextOdd);
    }

    /** "m is (X0 (NL - 1) - X1 NL) / 2^17 + 1/2, downwards" */
    private static void globalZoneHalves() {
        // 58 times 1134 less 59 times 4 is half of 2^17.
        dueGlobal(1133, 4, Place.told(0, 52743), Place.told(0, 189));
        dueGlobal(1134, 4, Place.told(0, 6154485), Place.told(0, 6207085));
    }

    /** "longitude T / n times (m modulo n, ...)" */
    private static void globalZoneModulo() {
        dueGlobal(0, 1110, 0, Place.told(0, 52563));
        dueGlobal(0, 1111, Place.told(0, -6101695), Place.told(0, -6154286));
        dueGlobal(0, 3332, Place.told(0, -6101695), Place.told(0, -6049111));
        dueGlobal(0, 3333, Place.told(0, -12203390), Place.told(0, -12255960));
    }

    /** "less 360 if it is 180 or more" */
    private static void globalHalfTurn() {
        CHECK.due("one step below 180, even", SpareDesk.get().global(65535, 0, false), Place.told(0, 179999953));
        CHECK.due("180, even", SpareDesk.get().global(65536, 0, false), Place.told(0, -180000000));
        CHECK.due("one step below 180, odd", SpareDesk.get().global(64406, LAST_STEP, true), Place.told(0, 179999952));
        CHECK.due("180, odd", SpareDesk.get().global(64407, 0, true), Place.told(0, -180000000));
        long below = Place.told(90000000, 179997253);
        long at = Place.told(90000000, -180000000);
        dueGlobal(Place.code(0, 65535), Place.code(98304, 65535), below, below);
        dueGlobal(Place.code(0, 65536), Place.code(98304, 65536), at, at);
    }

    /** "j is latitude / z downwards, and 1/2 and the fraction less Y / 2^17, downwards" */
    private static void localBandHalves() {
        for (boolean ground : BOTH) {
            int half = ground ? 750000 : 3000000;
            long middle = Place.code(65536, 0);
            dueLocal(middle, ground, false, 0, 0, Place.told(half, 0));
            dueLocal(middle, ground, false, -1, 0, Place.told(-half, 0));
            dueLocal(0, ground, false, half - 1, 0, 0);
            dueLocal(0, ground, false, half, 0, Place.told(2 * half, 0));
            dueLocal(0, ground, false, -half, 0, 0);
            dueLocal(0, ground, false, -half - 1, 0, Place.told(-2 * half, 0));
        }
    }

    /** "latitude z (j + Y / 2^17), none above 90 or below -90" */
    private static void localBeyondPoles() {
        localPoles(false, false, 89999954, -89999955);
        localPoles(true, false, 89999988, -89999989);
        localPoles(true, true, 89999988, -89999989);
        // 90 degrees is no whole number of the odd bands in the air.
        dueLocal(Place.code(98303, 0), false, true, 90000000, 0, Place.told(89999953, 0));
        dueLocal(Place.code(98304, 0), false, true, 90000000, 0, Place.told(90000000, 0));
        dueLocal(Place.code(98305, 0), false, true, 90000000, 0, NO_PLACE);
        dueLocal(Place.code(32769, 0), false, true, -90000000, 0, Place.told(-89999954, 0));
        dueLocal(Place.code(32768, 0), false, true, -90000000, 0, Place.told(-90000000, 0));
        dueLocal(Place.code(32767, 0), false, true, -90000000, 0, NO_PLACE);
    }

    private static void localPoles(boolean ground, boolean odd, int below, int above) {
        dueLocal(Place.code(LAST_STEP, 0), ground, odd, 90000000, 0, Place.told(below, 0));
        dueLocal(0, ground, odd, 90000000, 0, Place.told(90000000, 0));
        dueLocal(Place.code(1, 0), ground, odd, 90000000, 0, NO_PLACE);
        dueLocal(Place.code(1, 0), ground, odd, -90000000, 0, Place.told(above, 0));
        dueLocal(0, ground, odd, -90000000, 0, Place.told(-90000000, 0));
        dueLocal(Place.code(LAST_STEP, 0), ground, odd, -90000000, 0, NO_PLACE);
    }

    /** "longitude likewise by T / n, the place's longitude, X" */
    private static void localZoneHalves() {
        // At a pole on the ground the one zone is 90 degrees.
        dueLocal(65536, true, false, 90000000, -1, Place.told(90000000, -45000000));
        dueLocal(65536, true, false, 90000000, 0, Place.told(90000000, 45000000));
        dueLocal(0, true, false, 90000000, 44999999, Place.told(90000000, 0));
        dueLocal(0, true, false, 90000000, 45000000, Place.told(90000000, 90000000));
        dueLocal(0, true, false, 90000000, -45000000, Place.told(90000000, 0));
        dueLocal(0, true, false, 90000000, -45000001, Place.told(90000000, -90000000));
        // At 87 degrees in the air each of the two zones is 180 degrees.
        dueLocal(Place.code(65536, 0), false, false, 87000000, 89999999, Place.told(87000000, 0));
        dueLocal(Place.code(65536, 0), false, false, 87000000, 90000000, Place.told(87000000, -180000000));
        dueLocal(Place.code(65536, 0), false, false, 87000000, -90000000, Place.told(87000000, 0));
        dueLocal(Place.code(65536, 0), false, false, 87000000, -90000001, Place.told(87000000, -180000000));
    }

    /** "then a turn more or less, that it is from -180 on and below 180" */
    private static void localTurns() {
        for (int longitude : new int[] {-180000000, 179999999}) {
            dueLocal(65535, false, false, 90000000, longitude, Place.told(90000000, 179997253));
            dueLocal(65536, false, false, 90000000, longitude, Place.told(90000000, -180000000));
            dueLocal(65537, false, false, 90000000, longitude, Place.told(90000000, -179997254));
            dueLocal(LAST_STEP, true, false, 90000000, longitude, Place.told(90000000, 179999313));
            dueLocal(0, true, false, 90000000, longitude, Place.told(90000000, -180000000));
            dueLocal(1, true, false, 90000000, longitude, Place.told(90000000, -179999314));
            // The farthest that it can be: half a turn away, so at 0.
            dueLocal(0, false, false, 90000000, longitude, Place.told(90000000, 0));
        }
    }

    /** "What is told is in millionths, cut downwards.": also below 0 */
    private static void cutDownwards() {
        int[] latitudes = {45, 46, 11, 11};
        int[] longitudes = {46, 47, 11, 11};
        for (int k = 0; k < 4; k++) {
            boolean ground = k > 1;
            boolean odd = k % 2 == 1;
            dueLocal(Place.code(1, 1), ground, odd, 0, 0, Place.told(latitudes[k], longitudes[k]));
            dueLocal(LAST_CODE, ground, odd, 0, 0, Place.told(-latitudes[k] - 1, -longitudes[k] - 1));
        }
        dueGlobal(Place.code(1, 1), Place.code(1, 1), Place.told(45, 46), Place.told(46, 47));
        dueGlobal(LAST_CODE, LAST_CODE, Place.told(-46, -47), Place.told(-47, -48));
    }
}
