/** Promises 11 and 12: what frames and messages tell of a craft. */
public final class MessageTest {
    private static final Check CHECK = new Check();
    private static final int UNKNOWN = SquitterDesk.UNKNOWN;
    private static final int ADDRESS = 0x123456;

    public static void main(String[] args) {
        altitudeExamples();
        altitudesOfAllCodes();
        altitudeInMessages();
        squawks();
        names();
        groundSpeeds();
        groundHeadings();
        knotsEastAndNorth();
        airSpeeds();
        climbs();
        emergencyAndVersion();
        whatStays();
        CHECK.finish();
    }

    private static SquitterDesk desk() {
        SquitterDesk desk = new SquitterDesk();
        Bits.of(11).set(9, 32, ADDRESS).seal().hear(desk, 0);
        return desk;
    }

    private static void altitude(int df, int code, int due) {
        SquitterDesk desk = desk();
        Bits.of(df).set(20, 32, code).seal(ADDRESS).hear(desk, 1);
        CHECK.due("DF " + df + " altitude of " + code, desk.craft(0, 4), due);
        CHECK.due("no squawk", desk.craft(0, 5), UNKNOWN);
    }

    private static void altitudeExamples() {
        for (int df : new int[] {0, 4, 16, 20}) {
            altitude(df, 0, UNKNOWN);
            altitude(df, 0b0000001000000, UNKNOWN);
            altitude(df, 0b1111111111111, UNKNOWN);
            altitude(df, 0b0000000010000, -1000);
            altitude(df, 0b0000000010001, -975);
            altitude(df, 0b1111110111111, 50175);
            altitude(df, 0b1100000111000, 25 * 0b11000011000 - 1000);
            // C4 alone: g 0, h 1. C2 and C4: h 2. C2: h 3. C1 and C2: h 4. C1: h 7, that is 5.
            altitude(df, 0b0000100000000, -1200);
            altitude(df, 0b0010100000000, -1100);
            altitude(df, 0b0010000000000, -1000);
            altitude(df, 0b1010000000000, -900);
            altitude(df, 0b1000000000000, -800);
            // C1 C2 C4 is h 5, C1 C4 is h 6.
            altitude(df, 0b1010100000000, UNKNOWN);
            altitude(df, 0b1000100000000, UNKNOWN);
            // B4 alone is g 1, and without a C there is none.
            altitude(df, 0b0000000000010, UNKNOWN);
            altitude(df, 0b1000000000010, -700);
            altitude(df, 0b0000100000010, -300);
            // D2 alone is g 255, the highest.
            altitude(df, 0b1000000000100, 500 * 255 + 100 - 1300);
        }
    }

    private static void altitudesOfAllCodes() {
        for (int code = 0; code < 8192; code++) {
            SquitterDesk desk = desk();
            Bits.of(4).set(20, 32, code).seal(ADDRESS).hear(desk, 1);
            String bits = Integer.toBinaryString(8192 + code).substring(1);
            CHECK.due("altitude of " + bits, desk.craft(0, 4), Model.altitude(bits));
            Bits.of(21).set(20, 32, code).seal(ADDRESS).hear(desk, 1);
            CHECK.due("squawk of " + bits, desk.craft(0, 5), Model.squawk(bits));
        }
    }

    private static void altitudeInMessages() {
        for (int type = 9; type <= 22; type++) {
            SquitterDesk desk = desk();
            Bits.squitter(ADDRESS, type, 0).message(9, 20, 0xC38).seal().hear(desk, 1);
            CHECK.due("TYPE " + type, desk.craft(0, 4), type <= 18 ? 38000 : UNKNOWN);
            CHECK.due("TYPE " + type + " in the air", desk.craft(0, 14), type == 19 ? UNKNOWN : 0);
            Bits.of(4).set(20, 32, 0x10).seal(ADDRESS).hear(desk, 1);
            Bits.squitter(ADDRESS, type, 0).seal().hear(desk, 1);
            CHECK.due("TYPE " + type + " all 0", desk.craft(0, 4), type <= 18 ? UNKNOWN : -1000);
        }
        SquitterDesk desk = desk();
        // C1 and B1: h 7 is 5, g 7 is odd, so 1; the twelve bits lack M.
        Bits.squitter(ADDRESS, 11, 0).message(9, 20, 0b100000100000).seal().hear(desk, 1);
        CHECK.due("by Gray codes", desk.craft(0, 4), 500 * 7 + 100 - 1300);
        Bits.squitter(ADDRESS, 11, 0).message(9, 20, 0b111111111111).seal().hear(desk, 1);
        CHECK.due("all ones", desk.craft(0, 4), 50175);
    }

    private static void squawks() {
        for (int df : new int[] {5, 21}) {
            SquitterDesk desk = desk();
            int[][] cases = {
                {0, 0}, {0b1111110111111, 7777}, {0b0000001000000, 0},
                {0b0000010000000, 4000}, {0b0001000000000, 2000}, {0b0100000000000, 1000},
                {0b0000000000010, 400}, {0b0000000001000, 200}, {0b0000000100000, 100},
                {0b0000100000000, 40}, {0b0010000000000, 20}, {0b1000000000000, 10},
                {0b0000000000001, 4}, {0b0000000000100, 2}, {0b0000000010000, 1},
            };
            for (int[] one : cases) {
                Bits.of(df).set(20, 32, one[0]).seal(ADDRESS).hear(desk, 1);
                CHECK.due("squawk of " + one[0], desk.craft(0, 5), one[1]);
            }
            CHECK.due("no altitude", desk.craft(0, 4), UNKNOWN);
        }
    }

    private static void names() {
        String letters = "?ABCDEFGHIJKLMNOPQRSTUVWXYZ????? ???????????????0123456789??????";
        SquitterDesk desk = desk();
        for (int type = 1; type <= 4; type++) {
            for (int sub = 0; sub < 8; sub++) {
                int start = (8 * type + 3 * sub) % 64;
                Bits frame = Bits.squitter(ADDRESS, type, sub);
                for (int k = 0; k < 8; k++) {
                    frame.message(9 + 6 * k, 14 + 6 * k, (start + 9 * k) % 64);
                }
                frame.seal().hear(desk, 1);
                CHECK.due("category", desk.craft(0, 6), 10 * (5 - type) + sub);
                for (int k = 0; k < 8; k++) {
                    CHECK.due("sign " + k, desk.sign(0, k), letters.charAt((start + 9 * k) % 64));
                }
            }
        }
        for (int code = 0; code < 64; code++) {
            Bits.squitter(ADDRESS, 1, 0).message(9, 14, code).seal().hear(desk, 1);
            CHECK.due("sign of " + code, desk.sign(0, 0), letters.charAt(code));
        }
        CHECK.due("category of TYPE 1", desk.craft(0, 6), 40);
    }

    private static void groundSpeeds() {
        SquitterDesk desk = desk();
        int[][] cases = {
            {0, UNKNOWN}, {1, 0}, {2, 1}, {8, 7}, {9, 8}, {10, 10}, {12, 14}, {13, 16}, {14, 20}, {38, 116},
            {39, 120}, {40, 128}, {93, 552}, {94, 560}, {95, 576}, {108, 784}, {109, 800}, {110, 840},
            {123, 1360}, {124, 1400}, {125, UNKNOWN}, {127, UNKNOWN},
        };
        for (int type = 5; type <= 8; type++) {
            for (int[] one : cases) {
                Bits.squitter(ADDRESS, type, 0).message(6, 12, one[0]).seal().hear(desk, 1);
                CHECK.due("MOVE " + one[0], desk.craft(0, 9), one[1]);
                CHECK.due("on the ground", desk.craft(0, 14), 1);
            }
        }
        desk = desk();
        for (int move = 0; move < 128; move++) {
            Bits.squitter(ADDRESS, 7, 0).message(6, 12, move).seal().hear(desk, 1);
            CHECK.due("MOVE " + move, desk.craft(0, 9), Model.moved(move));
        }
    }

    private static void groundHeadings() {
        SquitterDesk desk = desk();
        int[][] cases = {{0, 0, UNKNOWN}, {0, 127, UNKNOWN}, {1, 0, 0}, {1, 1, 2812}, {1, 33, 92812}, {1, 64, 180000}, {1, 127, 357187}, {0, 5, UNKNOWN}};
        for (int[] one : cases) {
            Bits.squitter(ADDRESS, 5, 0).message(13, 13, one[0]).message(14, 20, one[1]).seal().hear(desk, 1);
            CHECK.due("ground heading " + one[1], desk.craft(0, 10), one[2]);
        }
    }

    private static void velocity(int sub, int firstSign, int first, int secondSign, int second, int... due) {
        SquitterDesk desk = desk();
        Bits.squitter(ADDRESS, 19, sub).message(14, 14, firstSign).message(15, 24, first)
            .message(25, 25, secondSign).message(26, 35, second).seal().hear(desk, 1);
        for (int k = 0; k < 4; k++) {
            CHECK.due("SUB " + sub + " of " + first + ", " + second + ": " + (7 + k), desk.craft(0, 7 + k), due[k]);
        }
        CHECK.due("GROUND isn't told", desk.craft(0, 14), UNKNOWN);
    }

    private static void knotsEastAndNorth() {
        velocity(1, 0, 4, 0, 5, 3, 4, 40, UNKNOWN);
        velocity(1, 1, 4, 0, 5, -3, 4, 40, UNKNOWN);
        velocity(1, 0, 4, 1, 5, 3, -4, 40, UNKNOWN);
        velocity(2, 1, 4, 1, 5, -12, -16, 160, UNKNOWN);
        velocity(1, 0, 1, 0, 1, 0, 0, 0, UNKNOWN);
        velocity(1, 1, 1, 1, 1, 0, 0, 0, UNKNOWN);
        velocity(1, 0, 2, 0, 2, 1, 1, 11, UNKNOWN);
        velocity(1, 1, 0, 0, 5, UNKNOWN, 4, UNKNOWN, UNKNOWN);
        velocity(1, 0, 5, 1, 0, 4, UNKNOWN, UNKNOWN, UNKNOWN);
        velocity(2, 0, 0, 0, 0, UNKNOWN, UNKNOWN, UNKNOWN, UNKNOWN);
        velocity(1, 0, 1023, 0, 1023, 1022, 1022, 11562, UNKNOWN);
        velocity(2, 1, 1023, 0, 1023, -4088, 4088, 46250, UNKNOWN);
        velocity(0, 0, 4, 0, 5, UNKNOWN, UNKNOWN, UNKNOWN, UNKNOWN);
    }

    private static void airSpeeds() {
        velocity(3, 1, 694, 0, 376, UNKNOWN, UNKNOWN, 3000, 243984);
        velocity(4, 1, 1023, 1, 376, UNKNOWN, UNKNOWN, 12000, 359648);
        velocity(3, 0, 694, 0, 1, UNKNOWN, UNKNOWN, 0, UNKNOWN);
        velocity(3, 1, 0, 0, 0, UNKNOWN, UNKNOWN, UNKNOWN, 0);
        velocity(4, 1, 1, 0, 1023, UNKNOWN, UNKNOWN, 32704, 351);
        velocity(5, 1, 1, 0, 1023, UNKNOWN, UNKNOWN, UNKNOWN, UNKNOWN);
    }

    private static void climbs() {
        int[][] cases = {{0, 0, UNKNOWN}, {1, 0, UNKNOWN}, {0, 1, 0}, {1, 1, 0}, {0, 2, 64}, {1, 2, -64}, {0, 511, 32640}, {1, 511, -32640}, {1, 37, -2304}};
        for (int sub = 1; sub <= 4; sub++) {
            SquitterDesk desk = desk();
            for (int[] one : cases) {
                Bits.squitter(ADDRESS, 19, sub).message(37, 37, one[0]).message(38, 46, one[1]).seal().hear(desk, 1);
                CHECK.due("SUB " + sub + " climb " + one[1], desk.craft(0, 11), one[2]);
            }
        }
    }

    private static void emergencyAndVersion() {
        SquitterDesk desk = desk();
        Bits.squitter(ADDRESS, 28, 1).message(9, 11, 5).message(12, 24, 0b0100000100000).seal().hear(desk, 1);
        CHECK.due("emergency", desk.craft(0, 12), 5);
        CHECK.due("its squawk", desk.craft(0, 5), 1100);
        Bits.squitter(ADDRESS, 28, 2).message(9, 11, 3).message(12, 24, 0).seal().hear(desk, 1);
        CHECK.due("SUB 2 tells nothing", desk.craft(0, 12), 5);
        CHECK.due("SUB 2 tells nothing", desk.craft(0, 5), 1100);
        Bits.of(18).set(9, 32, ADDRESS).message(1, 5, 28).message(6, 8, 1).seal().hear(desk, 1);
        CHECK.due("by DF 18", desk.craft(0, 12), 0);
        CHECK.due("by DF 18", desk.craft(0, 5), 0);
        for (int sub = 0; sub < 8; sub++) {
            Bits.squitter(ADDRESS, 31, sub).message(40, 44, 1).message(41, 43, 7 - sub).seal().hear(desk, 1);
            CHECK.due("version", desk.craft(0, 13), 7 - sub);
        }
    }

    private static void whatStays() {
        SquitterDesk desk = desk();
        Bits.squitter(ADDRESS, 19, 1).message(15, 24, 4).message(26, 35, 5).message(38, 46, 3).seal().hear(desk, 1);
        Bits.squitter(ADDRESS, 19, 3).message(14, 14, 1).message(15, 24, 512).message(26, 35, 11).seal().hear(desk, 2);
        CHECK.due("EAST stays by SUB 3", desk.craft(0, 7), 3);
        CHECK.due("NORTH stays by SUB 3", desk.craft(0, 8), 4);
        CHECK.due("SPEED by SUB 3", desk.craft(0, 9), 80);
        CHECK.due("HEADING by SUB 3", desk.craft(0, 10), 180000);
        CHECK.due("CLIMB is UNKNOWN by SUB 3", desk.craft(0, 11), UNKNOWN);
        Bits.squitter(ADDRESS, 19, 2).message(15, 24, 0).message(26, 35, 2).seal().hear(desk, 3);
        CHECK.due("EAST is UNKNOWN by SUB 2", desk.craft(0, 7), UNKNOWN);
        CHECK.due("NORTH by SUB 2", desk.craft(0, 8), 4);
        CHECK.due("SPEED is UNKNOWN by SUB 2", desk.craft(0, 9), UNKNOWN);
        CHECK.due("HEADING stays by SUB 2", desk.craft(0, 10), 180000);
        Bits.squitter(ADDRESS, 5, 0).message(6, 12, 9).seal().hear(desk, 4);
        CHECK.due("NORTH stays on the ground", desk.craft(0, 8), 4);
        CHECK.due("SPEED on the ground", desk.craft(0, 9), 8);
        CHECK.due("HEADING is UNKNOWN on the ground", desk.craft(0, 10), UNKNOWN);
        Bits.squitter(ADDRESS, 20, 0).seal().hear(desk, 5);
        CHECK.due("SPEED stays in the air", desk.craft(0, 9), 8);
        CHECK.due("GROUND in the air", desk.craft(0, 14), 0);
        Bits.of(4).set(20, 32, 0x10).seal(ADDRESS).hear(desk, 6);
        Bits.of(5).set(20, 32, 0x10).seal(ADDRESS).hear(desk, 6);
        CHECK.due("ALTITUDE stays by DF 5", desk.craft(0, 4), -1000);
        Bits.of(0).seal(ADDRESS).hear(desk, 7);
        CHECK.due("ALTITUDE is UNKNOWN by DF 0", desk.craft(0, 4), UNKNOWN);
        CHECK.due("SQUAWK stays by DF 0", desk.craft(0, 5), 1);
    }
}
