/** Promises 9, 10, 11 and 12 as far as they are about the book: order, counts, and what is never told. */
public final class BookTest {
    private static final Check CHECK = new Check();
    private static final int UNKNOWN = SquitterDesk.UNKNOWN;

    public static void main(String[] args) {
        orderAndCounts();
        nothingTold();
        CHECK.finish();
    }

    private static void orderAndCounts() {
        SquitterDesk desk = new SquitterDesk();
        int[] addresses = {9, 0, 0xFFFFFF, 4};
        for (int k = 0; k < addresses.length; k++) {
            CHECK.due("crafts()", desk.crafts(), k);
            CHECK.due("find ahead of it", desk.find(addresses[k]), -1);
            Bits.of(11).set(9, 32, addresses[k]).seal(k).hear(desk, k);
            CHECK.due("find", desk.find(addresses[k]), k);
        }
        Bits.squitter(0, 4, 0).seal().turn(40).hear(desk, 50);
        Bits.of(4).seal(0).hear(desk, 60);
        CHECK.due("crafts()", desk.crafts(), 4);
        for (int k = 0; k < addresses.length; k++) {
            CHECK.due("find stays", desk.find(addresses[k]), k);
            CHECK.due("address", desk.craft(k, 0), addresses[k]);
            CHECK.due("heard last", desk.craft(k, 1), k == 1 ? 60 : k);
            CHECK.due("frames", desk.craft(k, 2), k == 1 ? 3 : 1);
            CHECK.due("put right", desk.craft(k, 3), k == 1 ? 1 : 0);
        }
        CHECK.due("find another", desk.find(5), -1);
        CHECK.due("find below", desk.find(-1), -1);
        CHECK.due("find no address", desk.find(0x1000009), -1);
        CHECK.due("find UNKNOWN", desk.find(UNKNOWN), -1);
    }

    private static void nothingTold() {
        SquitterDesk desk = new SquitterDesk();
        Bits.of(11).set(9, 32, 9).seal().hear(desk, 3);
        for (int type : new int[] {0, 23, 24, 25, 26, 27, 29, 30}) {
            for (int sub = 0; sub < 8; sub++) {
                Bits.squitter(9, type, sub).message(9, 56, -1).message(13, 24, -1).seal().hear(desk, 3);
            }
        }
        for (int sub : new int[] {0, 2, 3, 4, 5, 6, 7}) {
            Bits.squitter(9, 28, sub).message(9, 24, -1).seal().hear(desk, 3);
        }
        for (int sub : new int[] {0, 5, 6, 7}) {
            Bits.squitter(9, 19, sub).message(9, 56, -1).seal().hear(desk, 3);
        }
        for (int df : new int[] {16, 20, 21}) {
            // Their MESSAGE is like one of TYPE 31, which just DF 17 and 18 tell by.
            Bits.of(df).message(1, 5, 31).message(41, 43, 2).set(26, 26, 1).seal(9).hear(desk, 3);
        }
        for (int what = 6; what < 18; what++) {
            CHECK.due("never told " + what, desk.craft(0, what), UNKNOWN);
        }
        CHECK.due("frames", desk.craft(0, 2), 1 + 64 + 7 + 4 + 3);
        CHECK.due("no signs", desk.sign(0, 0), -1);
    }
}
