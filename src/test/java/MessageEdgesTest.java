/** Terms 3, with promises 11 and 12: the edges of messages. Each method has its sentence above it. */
public final class MessageEdgesTest {
    private static final Check CHECK = new Check();
    private static final int UNKNOWN = SquitterDesk.UNKNOWN;
    private static final int ADDRESS = 0xABCDEF;

    private static final int ALTITUDE = 4;
    private static final int SQUAWK = 5;
    private static final int CATEGORY = 6;
    private static final int EAST = 7;
    private static final int NORTH = 8;
    private static final int SPEED = 9;
    private static final int HEADING = 10;
    private static final int CLIMB = 11;
    private static final int EMERGENCY = 12;
    private static final int VERSION = 13;
    private static final int GROUND = 14;

    public static void main(String[] args) {
        types();
        subsOfMotion();
        subsOfEmergency();
        otherFormatsTellNoMessage();
        categories();
        signCodes();
        signPlaces();
        moves();
        groundHeadings();
        altitudeBits();
        positions();
        motionBits();
        eastAndNorth();
        roots();
        airHeadings();
        airSpeeds();
        climbs();
        emergencies();
        versions();
        unknownCountsToo();
        whatItHasNotStays();
        CHECK.finish();
    }

    private static Bits message(int type, int sub) {
        return Bits.squitter(ADDRESS, type, sub);
    }

    /** A message with bits 9 .. 56 all 1. */
    private static Bits full(int type, int sub) {
        return message(type, sub).message(9, 40, -1).message(41, 56, -1);
    }

    /** What a new craft is told by one frame. */
    private static SquitterDesk told(Bits frame) {
        SquitterDesk desk = new SquitterDesk();
        CHECK.due("hear", frame.seal().hear(desk, 0), 0);
        return desk;
    }

    private static void due(String name, Bits frame, int what, int due) {
        CHECK.due(name, told(frame).craft(0, what), due);
    }

    private static void tellsJust(String name, Bits frame, int... whats) {
        SquitterDesk desk = told(frame);
        for (int what = ALTITUDE; what <= GROUND; what++) {
            boolean due = false;
            for (int one : whats) {
                due |= one == what;
            }
            CHECK.due(name + " tells " + what, desk.craft(0, what) != UNKNOWN, due);
        }
    }

    /** "1 .. 4: ... 5 .. 8: ... 9 .. 18, 20 .. 22: ... 19: ... 28 with SUB 1: ... 31: ... All else tells nothing." */
    private static void types() {
        for (int type = 0; type < 32; type++) {
            String name = "TYPE " + type;
            if (type >= 1 && type <= 4) {
                tellsJust(name, full(type, 1), CATEGORY);
            } else if (type >= 5 && type <= 8) {
                tellsJust(name, full(type, 1), SPEED, HEADING, GROUND);
            } else if (type >= 9 && type <= 18) {
                tellsJust(name, full(type, 1), ALTITUDE, GROUND);
            } else if (type == 19) {
                tellsJust(name, full(type, 1), EAST, NORTH, SPEED, CLIMB);
            } else if (type >= 20 && type <= 22) {
                tellsJust(name, full(type, 1), GROUND);
            } else if (type == 28) {
                tellsJust(name, full(type, 1), SQUAWK, EMERGENCY);
            } else if (type == 31) {
                tellsJust(name, full(type, 1), VERSION);
            } else {
                tellsJust(name, full(type, 1));
            }
            int sign = type >= 1 && type <= 4 ? '?' : -1;
            CHECK.due(name + " signs", told(full(type, 1)).sign(0, 0), sign);
            int ground = type >= 5 && type <= 8 ? 1 : type >= 9 && type <= 22 && type != 19 ? 0 : UNKNOWN;
            due(name + " GROUND", full(type, 1), GROUND, ground);
        }
    }

    /** "SUB 1, 2: EAST ... SUB 3, 4: HEADING ... All of these: CLIMB", "SUBS of 19 but 1 .. 4 tell nothing" */
    private static void subsOfMotion() {
        for (int sub = 0; sub < 8; sub++) {
            String name = "19 with SUB " + sub;
            if (sub == 1 || sub == 2) {
                tellsJust(name, full(19, sub), EAST, NORTH, SPEED, CLIMB);
            } else if (sub == 3 || sub == 4) {
                tellsJust(name, full(19, sub), SPEED, HEADING, CLIMB);
            } else {
                tellsJust(name, full(19, sub));
            }
        }
    }

    /** "28 with SUB 1" */
    private static void subsOfEmergency() {
        for (int sub = 0; sub < 8; sub++) {
            if (sub == 1) {
                tellsJust("28 with SUB 1", full(28, sub), SQUAWK, EMERGENCY);
            } else {
                tellsJust("28 with SUB " + sub, full(28, sub));
            }
        }
    }

    /** "MESSAGES of DF 17 and 18": the MESSAGE of 16, 20, 21 is like them and tells nothing */
    private static void otherFormatsTellNoMessage() {
        due("by DF 18", Bits.of(18).set(9, 32, ADDRESS).message(1, 5, 31).message(41, 43, 5), VERSION, 5);
        for (int df : new int[] {16, 20, 21}) {
            SquitterDesk desk = told(Bits.of(11).set(9, 32, ADDRESS));
            CHECK.due("hear DF " + df, Bits.of(df).message(1, 5, 31).message(41, 43, 5).seal(ADDRESS).hear(desk, 0), 0);
            CHECK.due("not by DF " + df, desk.craft(0, VERSION), UNKNOWN);
        }
    }

    /** "CATEGORY 10 times (5 less TYPE) and SUB" */
    private static void categories() {
        due("the least", message(4, 0), CATEGORY, 10);
        due("TYPE 4, the last SUB", message(4, 7), CATEGORY, 17);
        due("TYPE 3, the first SUB", message(3, 0), CATEGORY, 20);
        due("the greatest", message(1, 7), CATEGORY, 47);
    }

    /** "1 .. 26 "A" .. "Z", 32 a blank, 48 .. 57 "0" .. "9", others "?"" */
    private static void signCodes() {
        int[][] cases = {
            {0, '?'}, {1, 'A'}, {26, 'Z'}, {27, '?'}, {31, '?'}, {32, ' '}, {33, '?'},
            {47, '?'}, {48, '0'}, {57, '9'}, {58, '?'}, {63, '?'},
        };
        for (int[] one : cases) {
            CHECK.due("sign of " + one[0], told(message(4, 0).message(9, 14, one[0])).sign(0, 0), one[1]);
        }
    }

    /** "eight signs of 6 bits from 9 on": 9 .. 14 the first one, 51 .. 56 the last one */
    private static void signPlaces() {
        for (int k = 0; k < 8; k++) {
            SquitterDesk desk = told(message(4, 7).message(9 + 6 * k, 14 + 6 * k, 48));
            SquitterDesk last = told(message(4, 7).turn(32 + 14 + 6 * k));
            for (int i = 0; i < 8; i++) {
                CHECK.due("sign " + i, desk.sign(0, i), i == k ? '0' : '?');
                CHECK.due("the lowest bit of sign " + k + " in sign " + i, last.sign(0, i), i == k ? 'A' : '?');
            }
        }
        // Each of them between two others that have bits of 1 at both ends.
        Bits frame = message(4, 7);
        for (int k = 0; k < 8; k++) {
            frame.message(9 + 6 * k, 14 + 6 * k, k % 2 == 0 ? 1 : 49);
        }
        SquitterDesk desk = told(frame);
        for (int k = 0; k < 8; k++) {
            CHECK.due("sign " + k + " among others", desk.sign(0, k), k % 2 == 0 ? 'A' : '1');
        }
    }

    /** "MOVE 6 12 gives SPEED in eighths of a knot: 0 and above 124 UNKNOWN, 1: 0, 2 .. 8: 1 .. 7; from 9 on ..." */
    private static void moves() {
        int[][] cases = {
            {0, UNKNOWN}, {1, 0}, {2, 1}, {7, 6}, {8, 7}, {9, 8}, {10, 10}, {12, 14}, {13, 16}, {14, 20}, {38, 116},
            {39, 120}, {40, 128}, {93, 552}, {94, 560}, {95, 576}, {108, 784}, {109, 800}, {110, 840},
            {123, 1360}, {124, 1400}, {125, UNKNOWN}, {126, UNKNOWN}, {127, UNKNOWN},
        };
        for (int[] one : cases) {
            for (int type : new int[] {5, 8}) {
                due("TYPE " + type + " MOVE " + one[0], message(type, 0).message(6, 12, one[0]), SPEED, one[1]);
            }
        }
        due("bits 5 and 13 are not of it", message(7, 0).message(13, 20, 0xFF), SPEED, UNKNOWN);
    }

    /** "HEADING 360000 times 14 20 / 128, cut (UNKNOWN if 13 is 0; thousandths of a degree)" */
    private static void groundHeadings() {
        int[][] cases = {{0, 0}, {1, 2812}, {2, 5625}, {64, 180000}, {126, 354375}, {127, 357187}};
        for (int[] one : cases) {
            Bits frame = message(5, 0).message(14, 20, one[0]);
            due("13 is 0: " + one[0], frame, HEADING, UNKNOWN);
            due("13 is 1: " + one[0], frame.message(13, 13, 1), HEADING, one[1]);
        }
        due("bits 12 and 21 are not of it", full(5, 1).message(14, 20, 0), HEADING, 0);
        due("13 alone is 0", full(5, 1).message(13, 13, 0), HEADING, UNKNOWN);
    }

    /** "of 9 .. 18 the ALTITUDE by 9 20 as AC's bits but M" */
    private static void altitudeBits() {
        for (int type : new int[] {9, 18}) {
            due("all 0", message(type, 0), ALTITUDE, UNKNOWN);
            due("all but they", full(type, 7).message(9, 20, 0), ALTITUDE, UNKNOWN);
            due("they alone", message(type, 0).message(9, 20, -1), ALTITUDE, 50175);
            due("Q alone", message(type, 0).message(16, 16, 1), ALTITUDE, -1000);
            due("B1, right behind the place of M", message(type, 0).message(15, 16, 3), ALTITUDE, -600);
            due("A4, right ahead of the place of M", message(type, 0).message(14, 16, 5), ALTITUDE, -200);
            due("the first", message(type, 0).message(9, 9, 1), ALTITUDE, -800);
            due("the last with Q", message(type, 0).message(16, 16, 1).message(20, 20, 1), ALTITUDE, -975);
        }
    }

    /** "ODD 22, Y 23 39, X 40 56" */
    private static void positions() {
        // On the ground at 45 degrees north: what LOCAL tells of each bit alone, from a desk at the same place.
        positionBit(21, 45000000, 0);
        positionBit(22, 45762711, 0);
        positionBits(21, 22, 45762711, 0);
        positionBit(23, 45750000, 0);
        positionBit(24, 45375000, 0);
        positionBit(38, 45000022, 0);
        positionBit(39, 45000011, 0);
        positionBit(40, 45000000, 1071428);
        positionBit(41, 45000000, 535714);
        positionBit(55, 45000000, 32);
        positionBit(56, 45000000, 16);
    }

    private static void positionBit(int bit, int latitude, int longitude) {
        positionBits(bit, bit, latitude, longitude);
    }

    private static void positionBits(int first, int last, int latitude, int longitude) {
        for (int type : new int[] {5, 8}) {
            SquitterDesk desk = new SquitterDesk();
            desk.place(45000000, 0);
            message(type, 0).message(first, last, -1).seal().hear(desk, 0);
            CHECK.due("bits " + first + " .. " + last + " latitude", desk.craft(0, 15), latitude);
            CHECK.due("bits " + first + " .. " + last + " longitude", desk.craft(0, 16), longitude);
        }
    }

    /** "EAST is 15 24 ..., NORTH 26 35 ..., CLIMB ... 38 46": their bits, and no other */
    private static void motionBits() {
        due("EAST by its bits alone", message(19, 1).message(15, 24, -1), EAST, 1022);
        due("EAST by all but its bits", full(19, 1).message(15, 24, 0), EAST, UNKNOWN);
        due("NORTH by its bits alone", message(19, 1).message(26, 35, -1), NORTH, 1022);
        due("NORTH by all but its bits", full(19, 1).message(26, 35, 0), NORTH, UNKNOWN);
        due("CLIMB by its bits alone", message(19, 1).message(38, 46, -1), CLIMB, 32640);
        due("CLIMB by all but its bits", full(19, 1).message(38, 46, 0), CLIMB, UNKNOWN);
        due("HEADING by its bits alone", message(19, 3).message(14, 24, -1), HEADING, 359648);
        due("HEADING by all but its bits", full(19, 3).message(15, 24, 0), HEADING, 0);
        due("SPEED by its bits alone", message(19, 3).message(26, 35, -1), SPEED, 8176);
        due("SPEED by all but its bits", full(19, 3).message(26, 35, 0), SPEED, UNKNOWN);
        due("EAST's sign alone", full(19, 1).message(14, 14, 0), EAST, 1022);
        due("EAST's sign alone", message(19, 1).message(14, 14, 1).message(15, 24, -1), EAST, -1022);
        due("NORTH's sign alone", full(19, 1).message(25, 25, 0), NORTH, 1022);
        due("NORTH's sign alone", message(19, 1).message(25, 25, 1).message(26, 35, -1), NORTH, -1022);
        due("CLIMB's sign alone", full(19, 1).message(37, 37, 0), CLIMB, 32640);
        due("CLIMB's sign alone", message(19, 1).message(37, 37, 1).message(38, 46, -1), CLIMB, -32640);
        due("SPEED has no sign", full(19, 3).message(26, 35, 2), SPEED, 8);
    }

    private static void velocity(int sub, int first, int second, int east, int north, int speed) {
        SquitterDesk plus = told(message(19, sub).message(15, 24, first).message(26, 35, second));
        SquitterDesk minus = told(message(19, sub).message(14, 24, 1024 + first).message(25, 35, 1024 + second));
        String name = "SUB " + sub + " of " + first + ", " + second + ": ";
        CHECK.due(name + "EAST", plus.craft(0, EAST), east);
        CHECK.due(name + "NORTH", plus.craft(0, NORTH), north);
        CHECK.due(name + "SPEED", plus.craft(0, SPEED), speed);
        CHECK.due(name + "EAST below 0", minus.craft(0, EAST), east == UNKNOWN ? UNKNOWN : -east);
        CHECK.due(name + "NORTH below 0", minus.craft(0, NORTH), north == UNKNOWN ? UNKNOWN : -north);
        CHECK.due(name + "SPEED", minus.craft(0, SPEED), speed);
    }

    /** "EAST is 15 24 less 1, NORTH 26 35 less 1, below 0 if 14, 25 are 1 (UNKNOWN for 0), SUB 2 four times that" */
    private static void eastAndNorth() {
        velocity(1, 0, 0, UNKNOWN, UNKNOWN, UNKNOWN);
        velocity(1, 0, 1, UNKNOWN, 0, UNKNOWN);
        velocity(1, 1, 0, 0, UNKNOWN, UNKNOWN);
        velocity(1, 1, 1, 0, 0, 0);
        velocity(1, 2, 1, 1, 0, 8);
        velocity(1, 1, 2, 0, 1, 8);
        velocity(1, 1023, 1, 1022, 0, 8176);
        velocity(2, 0, 2, UNKNOWN, 4, UNKNOWN);
        velocity(2, 1, 1, 0, 0, 0);
        velocity(2, 2, 1, 4, 0, 32);
        velocity(2, 1023, 1, 4088, 0, 32704);
    }

    /** "the root of 64 times the sum of both squares, cut" */
    private static void roots() {
        velocity(1, 4, 5, 3, 4, 40);
        velocity(1, 2, 2, 1, 1, 11);
        // 64 times 17 is one less than 33 times 33.
        velocity(1, 5, 2, 4, 1, 32);
        velocity(1, 1023, 1023, 1022, 1022, 11562);
        velocity(2, 1023, 1023, 4088, 4088, 46250);
    }

    /** "HEADING 360000 times 15 24 / 1024, cut (UNKNOWN if 14 is 0)" */
    private static void airHeadings() {
        int[][] cases = {{0, 0}, {1, 351}, {2, 703}, {512, 180000}, {1022, 359296}, {1023, 359648}};
        for (int sub : new int[] {3, 4}) {
            for (int[] one : cases) {
                Bits frame = message(19, sub).message(15, 24, one[0]);
                due("14 is 0: " + one[0], frame, HEADING, UNKNOWN);
                due("14 is 1: " + one[0], frame.message(14, 14, 1), HEADING, one[1]);
            }
            due("14 alone is 0", full(19, sub).message(14, 14, 0), HEADING, UNKNOWN);
        }
    }

    /** "SPEED 8 times (26 35 less 1), SUB 4 four times that (UNKNOWN for 0)" */
    private static void airSpeeds() {
        int[][] cases = {{0, UNKNOWN, UNKNOWN}, {1, 0, 0}, {2, 8, 32}, {1023, 8176, 32704}};
        for (int[] one : cases) {
            due("SUB 3 of " + one[0], message(19, 3).message(26, 35, one[0]), SPEED, one[1]);
            due("SUB 4 of " + one[0], message(19, 4).message(26, 35, one[0]), SPEED, one[2]);
        }
    }

    /** "CLIMB 64 times (38 46 less 1) feet a minute, below 0 if 37 is 1 (UNKNOWN for 0)" */
    private static void climbs() {
        int[][] cases = {{0, UNKNOWN, UNKNOWN}, {1, 0, 0}, {2, 64, -64}, {511, 32640, -32640}};
        for (int sub = 1; sub <= 4; sub++) {
            for (int[] one : cases) {
                due("SUB " + sub + " up " + one[0], message(19, sub).message(38, 46, one[0]), CLIMB, one[1]);
                due("SUB " + sub + " down " + one[0], message(19, sub).message(37, 46, 512 + one[0]), CLIMB, one[2]);
            }
        }
    }

    /** "EMERGENCY 9 11, SQUAWK by 12 24 as ID's bits" */
    private static void emergencies() {
        due("EMERGENCY by its bits alone", message(28, 1).message(9, 11, 7), EMERGENCY, 7);
        due("EMERGENCY by all but its bits", full(28, 1).message(9, 11, 0), EMERGENCY, 0);
        due("SQUAWK by its bits alone", message(28, 1).message(12, 24, -1), SQUAWK, 7777);
        due("SQUAWK by all but its bits", full(28, 1).message(12, 24, 0), SQUAWK, 0);
        due("SQUAWK's first bit, C1", message(28, 1).message(12, 12, 1), SQUAWK, 10);
        due("SQUAWK's last bit, D4", message(28, 1).message(24, 24, 1), SQUAWK, 4);
    }

    /** "31: VERSION 41 43" */
    private static void versions() {
        for (int sub = 0; sub < 8; sub++) {
            due("by its bits alone", message(31, sub).message(41, 43, 7), VERSION, 7);
            due("by all but its bits", full(31, sub).message(41, 43, 0), VERSION, 0);
        }
    }

    /** "also UNKNOWN by AC and by fields of TYPES 5 .. 8, 19" */
    private static void unknownCountsToo() {
        SquitterDesk desk = told(full(11, 0));
        Bits.of(4).seal(ADDRESS).hear(desk, 0);
        CHECK.due("ALTITUDE by AC", desk.craft(0, ALTITUDE), UNKNOWN);
        full(11, 0).seal().hear(desk, 0);
        message(11, 0).seal().hear(desk, 0);
        CHECK.due("ALTITUDE by AC's bits in a message", desk.craft(0, ALTITUDE), UNKNOWN);
        full(5, 1).seal().hear(desk, 0);
        CHECK.due("SPEED on the ground", desk.craft(0, SPEED), 88);
        message(5, 0).seal().hear(desk, 0);
        CHECK.due("SPEED on the ground", desk.craft(0, SPEED), UNKNOWN);
        CHECK.due("HEADING on the ground", desk.craft(0, HEADING), UNKNOWN);
        full(19, 1).seal().hear(desk, 0);
        full(19, 3).seal().hear(desk, 0);
        message(19, 1).seal().hear(desk, 0);
        CHECK.due("EAST", desk.craft(0, EAST), UNKNOWN);
        CHECK.due("NORTH", desk.craft(0, NORTH), UNKNOWN);
        CHECK.due("SPEED", desk.craft(0, SPEED), UNKNOWN);
        CHECK.due("CLIMB", desk.craft(0, CLIMB), UNKNOWN);
        message(19, 3).seal().hear(desk, 0);
        CHECK.due("HEADING", desk.craft(0, HEADING), UNKNOWN);
    }

    /** "what it hasn't stays" */
    private static void whatItHasNotStays() {
        SquitterDesk desk = told(full(4, 2));
        full(11, 0).seal().hear(desk, 0);
        full(28, 1).seal().hear(desk, 0);
        full(31, 0).seal().hear(desk, 0);
        full(19, 3).seal().hear(desk, 0);
        full(19, 1).seal().hear(desk, 0);
        int[] due = {50175, 7777, 12, -1022, -1022, 11562, 359648, -32640, 7, 7, 0};
        for (int type : new int[] {0, 20, 23, 24, 25, 26, 27, 29, 30}) {
            full(type, 1).seal().hear(desk, 0);
        }
        for (int sub : new int[] {0, 5, 6, 7}) {
            message(19, sub).seal().hear(desk, 0);
        }
        for (int sub : new int[] {0, 2, 3, 4, 5, 6, 7}) {
            message(28, sub).seal().hear(desk, 0);
        }
        Bits.of(11).set(9, 32, ADDRESS).seal().hear(desk, 0);
        Bits.of(5).set(20, 32, -1).seal(ADDRESS).hear(desk, 0);
        for (int what = ALTITUDE; what <= GROUND; what++) {
            CHECK.due("stays: " + what, desk.craft(0, what), due[what - ALTITUDE]);
        }
        CHECK.due("the signs stay", desk.sign(0, 7), '?');
        full(19, 4).seal().hear(desk, 0);
        CHECK.due("EAST stays by SUB 4", desk.craft(0, EAST), -1022);
        CHECK.due("NORTH stays by SUB 4", desk.craft(0, NORTH), -1022);
        message(8, 0).seal().hear(desk, 0);
        CHECK.due("EAST stays on the ground", desk.craft(0, EAST), -1022);
        CHECK.due("CLIMB stays on the ground", desk.craft(0, CLIMB), -32640);
        CHECK.due("ALTITUDE stays on the ground", desk.craft(0, ALTITUDE), 50175);
        message(22, 0).seal().hear(desk, 0);
        CHECK.due("ALTITUDE stays by TYPE 22", desk.craft(0, ALTITUDE), 50175);
    }
}
