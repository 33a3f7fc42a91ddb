/** Promises 5, 6 and 11: how a craft's PLACE comes from its positions. */
public final class PlaceTest {
    private static final Check CHECK = new Check();
    private static final int UNKNOWN = SquitterDesk.UNKNOWN;
    private static final int ADDRESS = 0x40621D;
    private static final long EVEN = 12189747372L;
    private static final long ODD = 9720087570L;

    public static void main(String[] args) {
        everyType();
        groundAndOwnPlace();
        CHECK.finish();
    }

    private static void air(SquitterDesk desk, boolean odd, long code, int time) {
        CHECK.due("hear", Bits.position(ADDRESS, 11, odd, code).seal().hear(desk, time), 0);
    }

    private static void ground(SquitterDesk desk, boolean odd, long code, int time) {
        CHECK.due("hear", Bits.position(ADDRESS, 7, odd, code).seal().hear(desk, time), 0);
    }

    private static void due(String what, SquitterDesk desk, int latitude, int longitude, int time) {
        CHECK.due(what + ": latitude", desk.craft(0, 15), latitude);
        CHECK.due(what + ": longitude", desk.craft(0, 16), longitude);
        CHECK.due(what + ": time", desk.craft(0, 17), time);
    }

    private static void due(String what, SquitterDesk desk, long told, int time) {
        due(what, desk, (int) (told >> 32), (int) told, time);
    }

    private static void everyType() {
        for (int type = 0; type < 32; type++) {
            SquitterDesk desk = new SquitterDesk();
            Bits.position(ADDRESS, type, false, EVEN).seal().hear(desk, 5);
            Bits.of(18).set(9, 32, ADDRESS).message(1, 5, type).code(true, ODD).seal().hear(desk, 6);
            boolean tells = type >= 9 && type <= 22 && type != 19;
            CHECK.due("TYPE " + type + " latitude", desk.craft(0, 15), tells ? 52265780 : UNKNOWN);
            boolean ground = type >= 5 && type <= 8;
            CHECK.due("TYPE " + type + " GROUND", desk.craft(0, 14), tells ? 0 : ground ? 1 : UNKNOWN);
        }
    }

    private static void groundAndOwnPlace() {
        SquitterDesk desk = new SquitterDesk();
        desk.place(51990000, 4375000);
        long first = desk.encode(52320607, 4734735, true, false);
        ground(desk, false, first, 10);
        long due = desk.local(first, true, false, 51990000, 4375000);
        due("from the desk's own place", desk, due, 10);
        // Own place elsewhere now: the craft's place counts as long as it is fresh.
        desk.place(-20000000, 60000000);
        ground(desk, false, first, 310);
        due("from its place 300 old", desk, due, 310);
        ground(desk, false, first, 611);
        due("from the own place, as its own is 301 old", desk, desk.local(first, true, false, -20000000, 60000000), 611);
        long odd = desk.encode(-20100000, 60100000, true, true);
        long place = desk.local(first, true, false, -20000000, 60000000);
        ground(desk, true, odd, 612);
        due("odd ones on the ground", desk, desk.local(odd, true, true, (int) (place >> 32), (int) place), 612);
        CHECK.due("on the ground", desk.craft(0, 14), 1);
        // In the air a fresh place from the ground is what LOCAL starts from; the own place never is.
        long flying = desk.encode(-20200000, 60200000, false, false);
        air(desk, false, flying, 613);
        due("taken off", desk, desk.local(flying, false, false, -20100000, 60100000), 613);
        SquitterDesk alone = new SquitterDesk();
        alone.place(52000000, 4000000);
        air(alone, false, EVEN, 1);
        due("the own place isn't for the air", alone, UNKNOWN, UNKNOWN, UNKNOWN);
    }
}
