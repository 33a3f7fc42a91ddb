/** A place as global() and local() tell it, so that tests can write it as two numbers. */
final class Place {
    static final long NO_PLACE = Long.MIN_VALUE;
    static final int LAST_STEP = 131071;
    static final long LAST_CODE = 17179869183L;

    private Place() {
    }

    static long told(int latitude, int longitude) {
        return latitude * 4294967296L + Integer.toUnsignedLong(longitude);
    }

    /** A compact position as encode() tells it. */
    static long code(long y, long x) {
        return 131072 * y + x;
    }
}
