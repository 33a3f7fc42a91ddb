/** PLACE of terms 5, with promises 5, 6 and 11: its edges. Each method has the sentence that it tests above it. */
public final class PlaceEdgesTest {
    private static final Check CHECK = new Check();
    private static final int UNKNOWN = SquitterDesk.UNKNOWN;
    private static final int ADDRESS = 0x40621D;
    // A pair in the air; by the even one it is at 52257202, 3919372, by the odd one at 52265780, 3938912.
    private static final long EVEN = 12189747372L;
    private static final long ODD = 9720087570L;
    // A pair far from there; by the odd one it is at -29999985, 99999975.
    private static final long FAR_EVEN = 21845;
    private static final long FAR_ODD = 1431815964;
    // A place on the ground near the first pair, and far from a desk at 20 degrees south, 60 degrees east.
    private static final long TAXIING = 15125301676L;
    // A quarter of a band: from near a pole that would be beyond it.
    private static final long BEYOND_POLE = 4295051036L;

    public static void main(String[] args) {
        noPlaceOfItsOwn();
        refusedOwnPlaceStays();
        ownPlacesThatCanBe();
        airPositions();
        typesThatTellPlaces();
        otherHundredOld();
        latestOfEach();
        noneOfTheOther();
        byThisOne();
        placeThreeHundredOld();
        placeAheadOfPair();
        pairWhenPlaceIsTooOld();
        placeOfThisTime();
        forgottenOnTheGround();
        groundThreeHundredOld();
        noneInTheAirStays();
        noneOnTheGroundStays();
        refusedFramesTellNoPlace();
        CHECK.finish();
    }

    private static void air(SquitterDesk desk, boolean odd, long code, int time) {
        CHECK.due("hear", Bits.position(ADDRESS, 11, odd, code).seal().hear(desk, time), 0);
    }

    private static void ground(SquitterDesk desk, long code, int time) {
        CHECK.due("hear", Bits.position(ADDRESS, 6, false, code).seal().hear(desk, time), 0);
    }

    private static void due(String name, SquitterDesk desk, int latitude, int longitude, int time) {
        CHECK.due(name + ": latitude", desk.craft(0, 15), latitude);
        CHECK.due(name + ": longitude", desk.craft(0, 16), longitude);
        CHECK.due(name + ": time", desk.craft(0, 17), time);
    }

    private static void dueNone(String name, SquitterDesk desk) {
        due(name, desk, UNKNOWN, UNKNOWN, UNKNOWN);
    }

    /** A craft that is at 52265780, 3938912 since a time. */
    private static SquitterDesk deskWithPlace(int time) {
        SquitterDesk desk = new SquitterDesk();
        air(desk, false, EVEN, time);
        air(desk, true, ODD, time);
        due("by the pair", desk, 52265780, 3938912, time);
        return desk;
    }

    /** "from the desk's own place, if it has one": a new desk has none, and never one for the air */
    private static void noPlaceOfItsOwn() {
        SquitterDesk desk = new SquitterDesk();
        ground(desk, 0, 0);
        dueNone("without a place", desk);
        desk.place(52000000, 4000000);
        dueNone("not by place() alone", desk);
        air(desk, false, EVEN, 1);
        dueNone("not in the air", desk);
        ground(desk, TAXIING, 2);
        due("on the ground", desk, 52320602, 4734725, 2);
    }

    /** "false, and it stays, if there is none such": also when it is none yet */
    private static void refusedOwnPlaceStays() {
        int[][] refused = {{90000001, 0}, {-90000001, 0}, {0, 180000000}, {0, -180000001}, {UNKNOWN, UNKNOWN}, {2147483647, 0}};
        for (int[] place : refused) {
            SquitterDesk desk = new SquitterDesk();
            CHECK.due("no such place", desk.place(place[0], place[1]), false);
            ground(desk, 0, 0);
            dueNone("still none", desk);
            CHECK.due("a place", desk.place(52000000, 4000000), true);
            CHECK.due("no such place", desk.place(place[0], place[1]), false);
            ground(desk, TAXIING, 1);
            due("from the one that stayed", desk, 52320602, 4734725, 1);
        }
    }

    /** "The desk's own place: true": at each corner, where LOCAL starts from it */
    private static void ownPlacesThatCanBe() {
        for (int latitude : new int[] {90000000, -90000000}) {
            for (int longitude : new int[] {-180000000, 179999999}) {
                SquitterDesk desk = new SquitterDesk();
                CHECK.due("place", desk.place(latitude, longitude), true);
                ground(desk, 1, 0);
                due("one step to the east of -180", desk, latitude, -179999314, 0);
            }
        }
        SquitterDesk desk = new SquitterDesk();
        CHECK.due("place(0, 0) is one", desk.place(0, 0), true);
        ground(desk, 0, 0);
        due("from 0, 0", desk, 0, 0, 0);
        SquitterDesk moved = new SquitterDesk();
        moved.place(52000000, 4000000);
        CHECK.due("another place", moved.place(-20000000, 60000000), true);
        ground(moved, TAXIING, 0);
        due("from the latest one", moved, -19679398, 59293752, 0);
    }

    /** "in the air; ODD 22, Y 23 39, X 40 56" */
    private static void airPositions() {
        airPositionBit(21, 48000000, 0);
        airPositionBit(22, 42711864, 0);
        airPositionBits(21, 22, 42711864, 0);
        airPositionBit(23, 45000000, 0);
        airPositionBit(24, 43500000, 0);
        airPositionBit(38, 42000091, 0);
        airPositionBit(39, 42000045, 0);
        airPositionBit(40, 48000000, 4500000);
        airPositionBit(41, 48000000, 2250000);
        airPositionBit(55, 48000000, 137);
        airPositionBit(56, 48000000, 68);
    }

    private static void airPositionBit(int bit, int latitude, int longitude) {
        airPositionBits(bit, bit, latitude, longitude);
    }

    /** What LOCAL tells of some bits alone, the craft being at 45 degrees north. */
    private static void airPositionBits(int first, int last, int latitude, int longitude) {
        for (int type : new int[] {9, 18, 20, 22}) {
            SquitterDesk desk = new SquitterDesk();
            air(desk, false, Place.code(65536, 0), 0);
            air(desk, true, Place.code(49152, 0), 0);
            due("the place", desk, 45000000, 0, 0);
            Bits.squitter(ADDRESS, type, 0).message(first, last, -1).seal().hear(desk, 1);
            due("TYPE " + type + " bits " + first + " .. " + last, desk, latitude, longitude, 1);
        }
    }

    /** "TYPES 9 .. 18, 20 .. 22: the latest even, the latest odd Y, X are kept", "TYPES 5 .. 8: LOCAL (on the ground)" */
    private static void typesThatTellPlaces() {
        for (int type = 0; type < 32; type++) {
            boolean inAir = type >= 9 && type <= 18 || type >= 20 && type <= 22;
            boolean onGround = type >= 5 && type <= 8;
            SquitterDesk desk = new SquitterDesk();
            Bits.position(ADDRESS, type, false, EVEN).seal().hear(desk, 0);
            Bits.position(ADDRESS, type, true, ODD).seal().hear(desk, 1);
            due("pair of TYPE " + type, desk, inAir ? 52265780 : UNKNOWN, inAir ? 3938912 : UNKNOWN, inAir ? 1 : UNKNOWN);
            SquitterDesk own = new SquitterDesk();
            own.place(52000000, 4000000);
            Bits.position(ADDRESS, type, false, TAXIING).seal().hear(own, 2);
            due("own place, TYPE " + type, own, onGround ? 52320602 : UNKNOWN, onGround ? 4734725 : UNKNOWN, onGround ? 2 : UNKNOWN);
        }
    }

    /** "if one of the other p is there, not more than 100 old: GLOBAL by this p; else none" */
    private static void otherHundredOld() {
        SquitterDesk desk = new SquitterDesk();
        air(desk, false, EVEN, 7);
        air(desk, true, ODD, 107);
        due("the even one is 100 old", desk, 52265780, 3938912, 107);
        SquitterDesk late = new SquitterDesk();
        air(late, false, EVEN, 7);
        air(late, true, ODD, 108);
        dueNone("the even one is 101 old", late);
        air(late, false, EVEN, 208);
        due("the odd one is 100 old", late, 52257202, 3919372, 208);
        SquitterDesk other = new SquitterDesk();
        air(other, true, ODD, 7);
        air(other, false, EVEN, 108);
        dueNone("the odd one is 101 old", other);
        SquitterDesk first = new SquitterDesk();
        air(first, false, EVEN, 0);
        air(first, true, ODD, 0);
        due("both at time 0", first, 52265780, 3938912, 0);
    }

    /** "the latest even, the latest odd Y, X are kept with their times" */
    private static void latestOfEach() {
        SquitterDesk desk = new SquitterDesk();
        air(desk, false, FAR_EVEN, 0);
        air(desk, false, EVEN, 50);
        air(desk, true, ODD, 150);
        due("by the latest even one and its time", desk, 52265780, 3938912, 150);
        SquitterDesk other = new SquitterDesk();
        air(other, true, FAR_ODD, 0);
        air(other, true, ODD, 50);
        air(other, false, EVEN, 150);
        due("by the latest odd one and its time", other, 52257202, 3919372, 150);
    }

    /** "if one of the other p is there": two of the same p are none, though both are code 0 */
    private static void noneOfTheOther() {
        SquitterDesk desk = new SquitterDesk();
        air(desk, false, 0, 0);
        air(desk, false, 0, 1);
        dueNone("two even ones", desk);
        air(desk, true, 0, 2);
        due("the least code is one", desk, 0, 0, 2);
        SquitterDesk other = new SquitterDesk();
        air(other, true, Place.LAST_CODE, 0);
        air(other, true, Place.LAST_CODE, 1);
        dueNone("two odd ones", other);
        air(other, false, Place.LAST_CODE, 2);
        due("the last code is one", other, -46, -47, 2);
    }

    /** "GLOBAL by this p" */
    private static void byThisOne() {
        SquitterDesk desk = new SquitterDesk();
        air(desk, false, EVEN, 0);
        air(desk, true, ODD, 0);
        due("by the odd one", desk, 52265780, 3938912, 0);
        SquitterDesk other = new SquitterDesk();
        air(other, true, ODD, 0);
        air(other, false, EVEN, 0);
        due("by the even one", other, 52257202, 3919372, 0);
    }

    /** "If the CRAFT has a PLACE, not more than 300 old: LOCAL from it" */
    private static void placeThreeHundredOld() {
        SquitterDesk desk = deskWithPlace(7);
        air(desk, false, EVEN, 307);
        due("300 old", desk, 52257202, 3919372, 307);
        SquitterDesk late = deskWithPlace(7);
        air(late, false, EVEN, 308);
        due("301 old, and the odd one too", late, 52265780, 3938912, 7);
        SquitterDesk first = deskWithPlace(0);
        air(first, false, EVEN, 300);
        due("a PLACE of time 0", first, 52257202, 3919372, 300);
    }

    /** "LOCAL from it; else ...: GLOBAL": a PLACE comes ahead of a pair */
    private static void placeAheadOfPair() {
        SquitterDesk desk = deskWithPlace(7);
        air(desk, false, FAR_EVEN, 8);
        due("LOCAL of the even one", desk, 54000000, 1714259, 8);
        SquitterDesk other = deskWithPlace(7);
        air(other, true, FAR_ODD, 8);
        due("LOCAL of the odd one", other, 49322049, 8421020, 8);
    }

    /** The same where a PLACE grows old beside a fresh pair: LOCAL beyond the pole is none, so that the PLACE stays. */
    private static void pairWhenPlaceIsTooOld() {
        SquitterDesk desk = deskAtPole();
        air(desk, false, BEYOND_POLE, 250);
        due("none beyond the pole", desk, 89000011, 10000305, 10);
        air(desk, true, 4223482084L, 310);
        due("LOCAL, the PLACE is 300 old", desk, 86923735, -139998780, 310);
        SquitterDesk late = deskAtPole();
        air(late, false, BEYOND_POLE, 250);
        air(late, true, 4223482084L, 311);
        due("GLOBAL, the PLACE is 301 old", late, 1500006, 10000021, 311);
    }

    private static SquitterDesk deskAtPole() {
        SquitterDesk desk = new SquitterDesk();
        air(desk, false, 14316604985L, 9);
        air(desk, true, 10069347897L, 10);
        due("near the pole", desk, 89000011, 10000305, 10);
        return desk;
    }

    /** "it is the PLACE with this time": each LOCAL makes it young again, other frames don't */
    private static void placeOfThisTime() {
        SquitterDesk desk = deskWithPlace(0);
        air(desk, false, EVEN, 300);
        air(desk, false, EVEN, 600);
        due("300 after 300", desk, 52257202, 3919372, 600);
        SquitterDesk other = deskWithPlace(0);
        Bits.squitter(ADDRESS, 4, 0).seal().hear(other, 200);
        Bits.of(11).set(9, 32, ADDRESS).seal().hear(other, 300);
        CHECK.due("the PLACE's time stays", other.craft(0, 17), 0);
        air(other, false, EVEN, 301);
        due("301 old, though HEARD last 1 ago", other, 52265780, 3938912, 0);
    }

    /** "(all four are forgotten by a frame of TYPES 5 .. 8)" */
    private static void forgottenOnTheGround() {
        for (int type = 4; type <= 9; type++) {
            boolean forgets = type >= 5 && type <= 8;
            SquitterDesk desk = new SquitterDesk();
            air(desk, false, EVEN, 0);
            Bits.position(ADDRESS, type, false, EVEN).seal().hear(desk, 1);
            air(desk, true, ODD, 2);
            CHECK.due("the even one behind TYPE " + type, desk.craft(0, 15), forgets ? UNKNOWN : 52265780);
            SquitterDesk other = new SquitterDesk();
            air(other, true, ODD, 0);
            Bits.position(ADDRESS, type, true, ODD).seal().hear(other, 1);
            air(other, false, EVEN, 2);
            CHECK.due("the odd one behind TYPE " + type, other.craft(0, 15), forgets ? UNKNOWN : 52257202);
        }
        SquitterDesk desk = deskWithPlace(0);
        ground(desk, TAXIING, 290);
        due("the PLACE is not forgotten", desk, 52320602, 4734725, 290);
    }

    /** "LOCAL (on the ground) from the PLACE if it is not more than 300 old, else from the desk's own place" */
    private static void groundThreeHundredOld() {
        SquitterDesk desk = deskWithPlace(7);
        desk.place(-20000000, 60000000);
        ground(desk, TAXIING, 307);
        due("from the PLACE, 300 old", desk, 52320602, 4734725, 307);
        SquitterDesk late = deskWithPlace(7);
        late.place(-20000000, 60000000);
        ground(late, TAXIING, 308);
        due("from the own place, the PLACE is 301 old", late, -19679398, 59293752, 308);
        SquitterDesk alone = deskWithPlace(7);
        ground(alone, TAXIING, 308);
        due("from none, the PLACE is 301 old", alone, 52265780, 3938912, 7);
    }

    /** "If there is one, it is the PLACE with this time; else what there was stays." */
    private static void noneInTheAirStays() {
        SquitterDesk desk = deskAtPole();
        air(desk, false, BEYOND_POLE, 11);
        due("LOCAL has none", desk, 89000011, 10000305, 10);
        CHECK.due("GROUND is told all the same", desk.craft(0, 14), 0);
        // A pair at 6.3 degrees north: from near the pole, LOCAL has none of either, and GLOBAL isn't asked.
        SquitterDesk both = deskAtPole();
        air(both, false, 859129628, 11);
        air(both, true, 558446820, 12);
        due("LOCAL has none, GLOBAL would", both, 89000011, 10000305, 10);
        SquitterDesk pair = new SquitterDesk();
        // One step on this side of the bound of 59 zones and one on the other.
        air(pair, false, Place.code(97658, 1000), 0);
        air(pair, true, Place.code(93847, 1000), 1);
        dueNone("GLOBAL has none", pair);
        air(pair, true, Place.code(93846, 1000), 2);
        due("GLOBAL has one", pair, 10470436, 47354, 2);
    }

    /** The same on the ground: where LOCAL from the PLACE has none, the desk's own place isn't asked. */
    private static void noneOnTheGroundStays() {
        SquitterDesk desk = new SquitterDesk();
        desk.place(45000000, 20000000);
        air(desk, false, 16893480505L, 0);
        air(desk, true, 12603362873L, 0);
        due("near the pole", desk, 89900005, 10000305, 0);
        ground(desk, Place.code(32768, 0), 300);
        due("none from the PLACE", desk, 89900005, 10000305, 0);
        CHECK.due("GROUND is told all the same", desk.craft(0, 14), 1);
        ground(desk, Place.code(32768, 0), 301);
        due("from the own place", desk, 45375000, 19285714, 301);
    }

    /** "What is not refused is HEARD.": what is refused keeps no Y, X */
    private static void refusedFramesTellNoPlace() {
        SquitterDesk desk = new SquitterDesk();
        air(desk, false, EVEN, 10);
        CHECK.due("two wrong bits", Bits.position(ADDRESS, 11, true, ODD).seal().turn(60).turn(61).hear(desk, 11), -3);
        CHECK.due("another time", Bits.position(ADDRESS, 11, true, ODD).seal().hear(desk, 10), -1);
        dueNone("no pair", desk);
        CHECK.due("one wrong bit of X", Bits.position(ADDRESS, 11, true, ODD).seal().turn(32 + 56).hear(desk, 12), 1);
        due("as it was put right", desk, 52265780, 3938912, 12);
    }
}
