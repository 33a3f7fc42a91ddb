/** Promises 5, 6 and 11: how a craft's PLACE comes from its positions. */
public final class PlaceTest {
    private static final Check CHECK = new Check();
    private static final int UNKNOWN = SquitterDesk.UNKNOWN;
    private static final int ADDRESS = 0x40621D;
    private static final int LATITUDE = 52257202;
    private static final int LONGITUDE = 3919373;
    private static final long EVEN = 12189747372L;
    private static final long ODD = 9720087570L;

    public static void main(String[] args) {
        pairs();
        agesOfPairs();
        everyType();
        agesOfPlaces();
        groundForgetsPairs();
        groundAndOwnPlace();
        noneStays();
        CHECK.finish();
    }

    private static void air(SquitterDesk desk, boolean odd, long code, int time) {
        CHECK.due("hear", Bits.position(ADDRESS, 11, odd, code).seal().hear(desk, time), 0);
    }

    private static void ground(SquitterDesk desk, boolean odd, long code, int time) {
        CHECK.due("hear", Bits.position(ADDRESS, 7, odd, code).seal().hear(desk, time), 0);
    }

    private static void due(String what, SquitterDesk desk, int latitude, int longitude, int time) {
        CHECK.due(what + ": latitude", desk.craft(0, 15), latitude);
        CHECK.due(what + ": longitude", desk.craft(0, 16), longitude);
        CHECK.due(what + ": time", desk.craft(0, 17), time);
    }

    private static void due(String what, SquitterDesk desk, long told, int time) {
        due(what, desk, (int) (told >> 32), (int) told, time);
    }

    private static void pairs() {
        SquitterDesk desk = new SquitterDesk();
        air(desk, false, EVEN, 5);
        due("one alone", desk, UNKNOWN, UNKNOWN, UNKNOWN);
        air(desk, false, EVEN, 6);
        due("two even ones", desk, UNKNOWN, UNKNOWN, UNKNOWN);
        air(desk, true, ODD, 7);
        due("by the odd one", desk, 52265780, 3938912, 7);
        SquitterDesk other = new SquitterDesk();
        air(other, true, ODD, 5);
        air(other, false, EVEN, 6);
        due("by the even one", other, LATITUDE, 3919372, 6);
    }

    private static void agesOfPairs() {
        SquitterDesk desk = new SquitterDesk();
        air(desk, false, EVEN, 5);
        air(desk, true, ODD, 105);
        due("100 old", desk, 52265780, 3938912, 105);
        SquitterDesk later = new SquitterDesk();
        air(later, false, EVEN, 5);
        air(later, true, ODD, 106);
        due("101 old", later, UNKNOWN, UNKNOWN, UNKNOWN);
        air(later, false, EVEN, 206);
        due("the odd one was kept", later, LATITUDE, 3919372, 206);
        SquitterDesk wrong = new SquitterDesk();
        air(wrong, false, EVEN, 5);
        air(wrong, true, 545047570L, 6);
        due("a pair of no place", wrong, UNKNOWN, UNKNOWN, UNKNOWN);
    }

    private static void everyType() {
        for (int type = 0; type < 32; type++) {
            SquitterDesk desk = new SquitterDesk();
            Bits.position(ADDRESS, type, false, EVEN).seal().hear(desk, 5);
            Bits.of(18).set(9, 32, ADDRESS).message(1, 5, type).code(true, ODD).seal().hear(desk, 6);
            boolean tells = type >= 9 && type <= 22 && type != 19;
            CHECK.due("TYPE " + type + " latitude", desk.craft(0, 15), tells ? 52265780 : UNKNOWN);
            boolean ground = type >= 5 && type <= 8;
            CHECK.due("TYPE " + type + " GROUND", desk.craft(0, 14), tells ? 0 : ground ? 1 : UNKNOWN);
        }
    }

    private static void agesOfPlaces() {
        SquitterDesk desk = new SquitterDesk();
        air(desk, false, EVEN, 5);
        air(desk, true, ODD, 6);
        air(desk, true, ODD, 306);
        due("LOCAL from a place 300 old", desk, 52265780, 3938912, 306);
        air(desk, true, ODD, 607);
        due("a place 301 old and no other one", desk, 52265780, 3938912, 306);
        // The place is too old and the pair is fresh: GLOBAL finds a far place that LOCAL could not.
        long far = desk.encode(-30000000, 100000000, false, false);
        long farOdd = desk.encode(-30000000, 100000000, false, true);
        air(desk, false, far, 610);
        air(desk, true, farOdd, 611);
        due("GLOBAL again", desk, desk.global(far, farOdd, true), 611);
        // A fresh place is taken ahead of a fresh pair.
        air(desk, true, ODD, 612);
        long place = desk.global(far, farOdd, true);
        due("LOCAL ahead of GLOBAL", desk, desk.local(ODD, false, true, (int) (place >> 32), (int) place), 612);
    }

    private static void groundForgetsPairs() {
        SquitterDesk desk = new SquitterDesk();
        air(desk, false, EVEN, 5);
        ground(desk, false, 0, 6);
        due("no place to start from", desk, UNKNOWN, UNKNOWN, UNKNOWN);
        air(desk, true, ODD, 7);
        due("the even one is forgotten", desk, UNKNOWN, UNKNOWN, UNKNOWN);
        air(desk, false, EVEN, 8);
        due("the odd one is there", desk, LATITUDE, 3919372, 8);
        SquitterDesk other = new SquitterDesk();
        air(other, true, ODD, 5);
        ground(other, true, 0, 6);
        air(other, false, EVEN, 7);
        due("the odd one is forgotten", other, UNKNOWN, UNKNOWN, UNKNOWN);
    }

    private static void groundAndOwnPlace() {
        SquitterDesk desk = new SquitterDesk();
        desk.place(51990000, 4375000);
        long first = desk.encode(52320607, 4734735, true, false);
        ground(desk, false, first, 10);
        long due = desk.local(first, true, false, 51990000, 4375000);
        due("from the desk's own place", desk, due, 10);
        // Own place elsewhere now: the craft's place counts as long as it is fresh.
        desk.place(-20000000, 60000000);
        ground(desk, false, first, 310);
        due("from its place 300 old", desk, due, 310);
        ground(desk, false, first, 611);
        due("from the own place, as its own is 301 old", desk, desk.local(first, true, false, -20000000, 60000000), 611);
        long odd = desk.encode(-20100000, 60100000, true, true);
        long place = desk.local(first, true, false, -20000000, 60000000);
        ground(desk, true, odd, 612);
        due("odd ones on the ground", desk, desk.local(odd, true, true, (int) (place >> 32), (int) place), 612);
        CHECK.due("on the ground", desk.craft(0, 14), 1);
        // In the air a fresh place from the ground is what LOCAL starts from; the own place never is.
        long flying = desk.encode(-20200000, 60200000, false, false);
        air(desk, false, flying, 613);
        due("taken off", desk, desk.local(flying, false, false, -20100000, 60100000), 613);
        SquitterDesk alone = new SquitterDesk();
        alone.place(52000000, 4000000);
        air(alone, false, EVEN, 1);
        due("the own place isn't for the air", alone, UNKNOWN, UNKNOWN, UNKNOWN);
    }

    private static void noneStays() {
        SquitterDesk desk = new SquitterDesk();
        long even = desk.encode(89000000, 0, false, false);
        long odd = desk.encode(89000000, 0, false, true);
        air(desk, false, even, 5);
        air(desk, true, odd, 6);
        long place = desk.global(even, odd, true);
        due("near the pole", desk, place, 6);
        // 1.5 degrees into the next band is above 90, so LOCAL has none and GLOBAL isn't asked.
        long above = (131072L / 4) << 17;
        CHECK.due("LOCAL has none", desk.local(above, false, false, (int) (place >> 32), (int) place), Long.MIN_VALUE);
        air(desk, false, above, 7);
        due("what there was stays", desk, place, 6);
        SquitterDesk ground = new SquitterDesk();
        ground.place(90000000, 0);
        ground(ground, false, above, 7);
        due("none on the ground", ground, UNKNOWN, UNKNOWN, UNKNOWN);
    }
}
