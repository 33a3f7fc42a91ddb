/** Desks for calls that leave nothing behind: no object is asked more often than the document allows. */
final class SpareDesk {
    private static final int CALLS = 512;
    private static SquitterDesk desk = new SquitterDesk();
    private static int used = 0;

    private SpareDesk() {
    }

    /** A desk for one call. */
    static SquitterDesk get() {
        if (used == CALLS) {
            desk = new SquitterDesk();
            used = 0;
        }
        used++;
        return desk;
    }
}
