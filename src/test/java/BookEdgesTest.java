/** Terms 5, with promises 1, 5, 6 and 9 to 12: the edges of the book. Each method has its sentence above it. */
public final class BookEdgesTest {
    private static final Check CHECK = new Check();
    private static final int UNKNOWN = SquitterDesk.UNKNOWN;
    private static final int LAST_TIME = 1000000000;
    private static final int MOST = 20;

    public static void main(String[] args) {
        emptyBook();
        lastCall();
        timesThatCanBe();
        timesOfFramesBefore();
        timesOfRefusedFrames();
        orderOfRefusals();
        refusedByTimeLeavesAll();
        refusedFramesLeaveAll();
        twentyFirst();
        twentyFirstWhenOneGoes();
        sixHundredOld();
        othersMoveUp();
        allGo();
        goneAheadOfTheFrame();
        refusedFramesKeepNobody();
        goneComesAsNew();
        counts();
        finding();
        craftsThatAreThere();
        whats();
        neverTold();
        signs();
        CHECK.finish();
    }

    private static Bits squitter(int address) {
        return Bits.squitter(address, 4, 0).seal();
    }

    private static Bits allCall(int address) {
        return Bits.of(11).set(9, 32, address).seal();
    }

    private static Bits reply(int address) {
        return Bits.of(4).set(20, 32, 0x10).seal(address);
    }

    private static Bits unknownFormat() {
        return Bits.of(19).seal(3);
    }

    private static Bits brokenSquitter(int address) {
        return Bits.squitter(address, 4, 0).seal(3);
    }

    private static SquitterDesk deskOf(int crafts, int time) {
        SquitterDesk desk = new SquitterDesk();
        for (int k = 0; k < crafts; k++) {
            CHECK.due("craft " + k, allCall(100 + k).hear(desk, time), 0);
        }
        return desk;
    }

    /** "An empty book, no place of its own, time 0, nothing HEARD." */
    private static void emptyBook() {
        SquitterDesk desk = new SquitterDesk();
        CHECK.due("crafts()", desk.crafts(), 0);
        for (int address : new int[] {0, 1, -1, UNKNOWN, 0xFFFFFF}) {
            CHECK.due("find(" + address + ")", desk.find(address), -1);
        }
        for (int i : new int[] {-1, 0, 19}) {
            CHECK.due("craft(" + i + ", 0)", desk.craft(i, 0), -1);
            CHECK.due("craft(" + i + ", 17)", desk.craft(i, 17), -1);
            CHECK.due("sign(" + i + ", 0)", desk.sign(i, 0), -1);
            CHECK.due("sign(" + i + ", 7)", desk.sign(i, 7), -1);
        }
        CHECK.due("field(0)", desk.field(0), -1);
        CHECK.due("bits(1, 1)", desk.bits(1, 1), 0);
        CHECK.due("a reply is of no craft, ADDRESS 0 too", reply(0).hear(desk, 0), -4);
    }

    /** "An object is used for at most 512 calls after it has been made" */
    private static void lastCall() {
        SquitterDesk desk = new SquitterDesk();
        for (int call = 1; call <= 511; call++) {
            CHECK.due("call " + call, squitter(5).turn(6 + call % 107).hear(desk, call), 1);
        }
        CHECK.due("the 512th call", desk.craft(0, 3), 511);
    }

    /** "(tenths of a second, 0 .. 1000000000 ...)", "NONE another time" */
    private static void timesThatCanBe() {
        CHECK.due("time 0", squitter(5).hear(new SquitterDesk(), 0), 0);
        CHECK.due("the last time", squitter(5).hear(new SquitterDesk(), LAST_TIME), 0);
        for (int time : new int[] {-1, UNKNOWN, LAST_TIME + 1, 2147483647}) {
            SquitterDesk desk = new SquitterDesk();
            CHECK.due("time " + time, squitter(5).hear(desk, time), -1);
            CHECK.due("no craft by it", desk.crafts(), 0);
            CHECK.due("nothing HEARD by it", desk.field(0), -1);
            CHECK.due("time stays 0", squitter(5).hear(desk, 0), 0);
        }
        SquitterDesk desk = deskOf(1, LAST_TIME);
        CHECK.due("HEARD last", desk.craft(0, 1), LAST_TIME);
        CHECK.due("the last time again", squitter(100).hear(desk, LAST_TIME), 0);
        CHECK.due("one less", squitter(100).hear(desk, LAST_TIME - 1), -1);
        CHECK.due("one more", squitter(100).hear(desk, LAST_TIME + 1), -1);
    }

    /** "not ahead of that of the latest frame that came at a time that can be" */
    private static void timesOfFramesBefore() {
        SquitterDesk desk = deskOf(1, 50);
        CHECK.due("one ahead", squitter(100).hear(desk, 49), -1);
        CHECK.due("the same time", squitter(100).hear(desk, 50), 0);
        CHECK.due("a refused time does not set it back", squitter(100).hear(desk, 49), -1);
        CHECK.due("a time that can't be", squitter(100).hear(desk, LAST_TIME + 1), -1);
        CHECK.due("does not set it forth", squitter(100).hear(desk, 50), 0);
        CHECK.due("one more", squitter(100).hear(desk, 51), 0);
        CHECK.due("counts", squitter(100).hear(desk, 50), -1);
    }

    /** "HEARD or not" */
    private static void timesOfRefusedFrames() {
        timeCounts(deskOf(1, 10), unknownFormat(), -2);
        timeCounts(deskOf(1, 10), brokenSquitter(100), -3);
        timeCounts(deskOf(1, 10), reply(7), -4);
        timeCounts(deskOf(MOST, 10), squitter(7), -5);
    }

    private static void timeCounts(SquitterDesk desk, Bits refused, int due) {
        CHECK.due("refused", refused.hear(desk, 20), due);
        CHECK.due("ahead of a frame refused by " + due, squitter(100).hear(desk, 19), -1);
        CHECK.due("with a frame refused by " + due, squitter(100).hear(desk, 20), 0);
    }

    /** "It is refused, by the first of these: NONE ...; -2 ...; -3 ...; -4 ...; -5 ..." */
    private static void orderOfRefusals() {
        SquitterDesk desk = deskOf(MOST, 10);
        Bits[] refused = {unknownFormat(), brokenSquitter(7), reply(7), squitter(7)};
        for (int k = 0; k < refused.length; k++) {
            CHECK.due("by its time first", refused[k].hear(desk, 9), -1);
            CHECK.due("by its time first", refused[k].hear(desk, LAST_TIME + 1), -1);
            CHECK.due("then by what is wrong with it", refused[k].hear(desk, 10), -2 - k);
        }
        // Each of these has what the later refusals ask for too: the book is full and nobody is 7.
        CHECK.due("DF 19 with a SYNDROME of no craft", Bits.of(19).seal(7).hear(desk, 10), -2);
        CHECK.due("DF 10 with a SYNDROME of no craft", Bits.of(10).seal(7).hear(desk, 10), -2);
        CHECK.due("DF 18 that can't be, of no craft", Bits.of(18).set(9, 32, 7).seal(3).hear(desk, 10), -3);
        CHECK.due("DF 11 that can't be, of no craft", Bits.of(11).set(9, 32, 7).seal(129).hear(desk, 10), -3);
        for (int df : new int[] {0, 4, 5, 16, 20, 21}) {
            CHECK.due("DF " + df + " of no craft, and the book is full", Bits.of(df).seal(7).hear(desk, 10), -4);
        }
        CHECK.due("DF 11 of no craft", allCall(7).hear(desk, 10), -5);
        CHECK.due("DF 17 of no craft, put right", squitter(7).turn(60).hear(desk, 10), -5);
        CHECK.due("DF 18 of no craft", Bits.of(18).set(9, 32, 7).seal().hear(desk, 10), -5);
        CHECK.due("one of the twenty that can't be", brokenSquitter(100).hear(desk, 10), -3);
        CHECK.due("one of the twenty", squitter(100).hear(desk, 10), 0);
    }

    /** Three crafts with a name, a place and a motion; the latest frame was put right. */
    private static SquitterDesk richDesk() {
        SquitterDesk desk = new SquitterDesk();
        desk.place(52000000, 4000000);
        Bits.squitter(100, 4, 3).message(9, 14, 1).message(51, 56, 50).seal().hear(desk, 10);
        Bits.position(101, 11, false, 12189747372L).message(9, 20, 0xC38).seal().hear(desk, 11);
        Bits.position(101, 11, true, 9720087570L).message(9, 20, 0xC38).seal().hear(desk, 12);
        Bits.squitter(102, 19, 1).message(15, 24, 9).message(26, 35, 160).message(38, 46, 14).seal().turn(77).hear(desk, 20);
        return desk;
    }

    /** "NONE another time": nobody goes, nothing is told, and the time stays */
    private static void refusedByTimeLeavesAll() {
        for (int time : new int[] {19, -1, LAST_TIME + 1}) {
            SquitterDesk desk = richDesk();
            String before = Seen.of(desk);
            CHECK.due("a craft's frame", Bits.squitter(100, 31, 0).message(41, 43, 2).seal().hear(desk, time), -1);
            CHECK.due("a new craft's frame", squitter(7).hear(desk, time), -1);
            CHECK.due("time " + time + " leaves all as it was", Seen.of(desk).equals(before), true);
            CHECK.due("the time stays", squitter(102).hear(desk, 20), 0);
        }
    }

    /** "What is not refused is HEARD.": what is refused tells nothing */
    private static void refusedFramesLeaveAll() {
        Bits[] refused = {
            unknownFormat(),
            Bits.squitter(100, 31, 0).message(41, 43, 2).seal(3),
            Bits.of(11).set(9, 32, 101).seal(129),
            Bits.of(20).set(20, 32, 0x10).seal(7),
        };
        int[] due = {-2, -3, -3, -4};
        for (int k = 0; k < refused.length; k++) {
            SquitterDesk desk = richDesk();
            String before = Seen.of(desk);
            CHECK.due("refused", refused[k].hear(desk, 30), due[k]);
            CHECK.due(due[k] + " leaves all as it was", Seen.of(desk).equals(before), true);
        }
        SquitterDesk full = deskOf(MOST, 10);
        CHECK.due("refused", Bits.squitter(7, 31, 0).message(41, 43, 2).seal().hear(full, 30), -5);
        CHECK.due("-5 leaves the latest frame", full.field(11), 119);
        CHECK.due("-5 leaves its bits", full.bits(1, 5), 11);
        for (int k = 0; k < MOST; k++) {
            CHECK.due("-5 leaves the ADDRESS", full.craft(k, 0), 100 + k);
            CHECK.due("-5 leaves the time", full.craft(k, 1), 10);
            CHECK.due("-5 leaves the frames", full.craft(k, 2), 1);
            CHECK.due("-5 leaves the VERSION", full.craft(k, 13), UNKNOWN);
        }
    }

    /** "THE BOOK has at most 20 CRAFTS", "-5 there would be a 21st one" */
    private static void twentyFirst() {
        SquitterDesk desk = deskOf(MOST - 1, 10);
        CHECK.due("nineteen", desk.crafts(), 19);
        CHECK.due("there is no twentieth yet", desk.craft(19, 0), -1);
        CHECK.due("the twentieth", squitter(500).hear(desk, 10), 0);
        CHECK.due("twenty", desk.crafts(), 20);
        CHECK.due("where it is", desk.find(500), 19);
        CHECK.due("the twenty-first", squitter(501).hear(desk, 10), -5);
        CHECK.due("still twenty", desk.crafts(), 20);
        CHECK.due("it is not there", desk.find(501), -1);
        CHECK.due("there is no place for it", desk.craft(20, 0), -1);
        CHECK.due("the last one stays", desk.craft(19, 0), 500);
        CHECK.due("the first one is still heard", squitter(100).hear(desk, 10), 0);
        CHECK.due("the last one is still heard", reply(500).hear(desk, 10), 0);
    }

    /** The same with "Ahead of -2, CRAFTS that were HEARD last more than 600 ahead of the time are gone" */
    private static void twentyFirstWhenOneGoes() {
        SquitterDesk desk = new SquitterDesk();
        for (int k = 0; k < MOST; k++) {
            allCall(100 + k).hear(desk, 10 + k);
        }
        CHECK.due("the first one is 600 old", squitter(500).hear(desk, 610), -5);
        CHECK.due("the first one is 601 old", squitter(500).hear(desk, 611), 0);
        CHECK.due("twenty again", desk.crafts(), 20);
        CHECK.due("the second one is the first one", desk.find(101), 0);
        CHECK.due("the new one is the last one", desk.find(500), 19);
        CHECK.due("now the second one is 600 old", squitter(501).hear(desk, 611), -5);
    }

    /** "HEARD last more than 600 ahead of the time are gone" */
    private static void sixHundredOld() {
        SquitterDesk desk = deskOf(1, 100);
        CHECK.due("600 later", unknownFormat().hear(desk, 700), -2);
        CHECK.due("still there", desk.crafts(), 1);
        CHECK.due("its own reply", reply(100).hear(desk, 700), 0);
        CHECK.due("600 later again", reply(100).hear(desk, 1300), 0);
        CHECK.due("it is the same one", desk.craft(0, 2), 3);
        CHECK.due("601 later", unknownFormat().hear(desk, 1901), -2);
        CHECK.due("gone", desk.crafts(), 0);
        CHECK.due("its own reply", reply(100).hear(desk, 1901), -4);
        SquitterDesk late = deskOf(1, 0);
        CHECK.due("at the last time of all", unknownFormat().hear(late, LAST_TIME), -2);
        CHECK.due("gone", late.crafts(), 0);
    }

    /** "(the others move up)" */
    private static void othersMoveUp() {
        for (int gone = 0; gone < 4; gone++) {
            SquitterDesk desk = deskOf(4, 0);
            for (int k = 0; k < 4; k++) {
                if (k != gone) {
                    Bits.squitter(100 + k, 4, k).message(9, 14, 1 + k).seal().hear(desk, 1);
                }
            }
            CHECK.due("one goes", unknownFormat().hear(desk, 601), -2);
            CHECK.due("three are left", desk.crafts(), 3);
            CHECK.due("no fourth one", desk.craft(3, 0), -1);
            CHECK.due("no fourth one's sign", desk.sign(3, 0), -1);
            CHECK.due("it is not there", desk.find(100 + gone), -1);
            for (int i = 0; i < 3; i++) {
                int k = i < gone ? i : i + 1;
                CHECK.due("in their order", desk.find(100 + k), i);
                CHECK.due("with what they were told", desk.craft(i, 6), 10 + k);
                CHECK.due("with their signs", desk.sign(i, 0), 'A' + k);
                CHECK.due("with their frames", desk.craft(i, 2), 2);
            }
        }
    }

    /** The same when nobody is left, and when every other one goes. */
    private static void allGo() {
        SquitterDesk desk = deskOf(MOST, 0);
        CHECK.due("all go", unknownFormat().hear(desk, 601), -2);
        CHECK.due("none is left", desk.crafts(), 0);
        CHECK.due("no first one", desk.craft(0, 0), -1);
        CHECK.due("none is found", desk.find(100), -1);
        for (int k = 0; k < MOST; k++) {
            CHECK.due("twenty new ones", allCall(300 + k).hear(desk, k == 0 ? 700 : 701), 0);
        }
        CHECK.due("one is older than the others", unknownFormat().hear(desk, 1301), -2);
        CHECK.due("nineteen are left", desk.crafts(), 19);
        for (int k = 1; k < MOST; k += 2) {
            squitter(300 + k).hear(desk, 1301);
        }
        CHECK.due("every other one goes", unknownFormat().hear(desk, 1302), -2);
        CHECK.due("ten are left", desk.crafts(), 10);
        for (int i = 0; i < 10; i++) {
            CHECK.due("in their order", desk.craft(i, 0), 301 + 2 * i);
        }
    }

    /** "Ahead of -2 ... are gone": whatever comes of the frame, but not by a time that can't be */
    private static void goneAheadOfTheFrame() {
        goesBy(unknownFormat(), 701, -2, 1);
        goesBy(brokenSquitter(100), 701, -3, 1);
        goesBy(reply(7), 701, -4, 1);
        goesBy(reply(100), 701, -4, 1);
        goesBy(reply(101), 701, 0, 1);
        goesBy(squitter(7), 701, 0, 2);
        goesBy(squitter(7), 99, -1, 2);
        goesBy(squitter(7), LAST_TIME + 1, -1, 2);
    }

    /** Of two crafts the first one was HEARD last at 100. */
    private static void goesBy(Bits frame, int time, int answer, int left) {
        SquitterDesk desk = deskOf(2, 100);
        allCall(101).hear(desk, 101);
        CHECK.due("hear at " + time, frame.hear(desk, time), answer);
        CHECK.due("how many there are", desk.crafts(), left);
        CHECK.due("is the first one there", desk.find(100), time == 701 ? -1 : 0);
        CHECK.due("where is the second one", desk.find(101), time == 701 ? 0 : 1);
    }

    /** "HEARD last": a refused frame of a craft does not count as its latest */
    private static void refusedFramesKeepNobody() {
        SquitterDesk desk = deskOf(1, 0);
        CHECK.due("a frame that can't be", brokenSquitter(100).hear(desk, 600), -3);
        CHECK.due("HEARD last", desk.craft(0, 1), 0);
        CHECK.due("601 later", unknownFormat().hear(desk, 601), -2);
        CHECK.due("gone", desk.crafts(), 0);
    }

    /** The craft that is gone and comes again: "UNKNOWN what was never told", NONE for its signs */
    private static void goneComesAsNew() {
        SquitterDesk desk = richDesk();
        Bits.squitter(101, 4, 3).message(9, 14, 1).seal().turn(50).hear(desk, 20);
        CHECK.due("601 later", allCall(101).hear(desk, 621), 0);
        CHECK.due("alone", desk.crafts(), 1);
        CHECK.due("frames", desk.craft(0, 2), 1);
        CHECK.due("put right", desk.craft(0, 3), 0);
        nothingTold(desk, 0);
        // Its pair is forgotten too: the odd one alone is no place.
        Bits.position(101, 11, true, 9720087570L).seal().hear(desk, 622);
        CHECK.due("no PLACE", desk.craft(0, 15), UNKNOWN);
        SquitterDesk kept = richDesk();
        CHECK.due("600 later", allCall(101).hear(kept, 612), 0);
        CHECK.due("the same one", kept.craft(0, 2), 3);
        CHECK.due("its PLACE stays", kept.craft(0, 15), 52265780);
    }

    private static void nothingTold(SquitterDesk desk, int i) {
        for (int what = 4; what <= 17; what++) {
            CHECK.due("craft(" + i + ", " + what + ")", desk.craft(i, what), UNKNOWN);
        }
        for (int k = 0; k < 8; k++) {
            CHECK.due("sign(" + i + ", " + k + ")", desk.sign(i, k), -1);
        }
    }

    /** "Then the CRAFT has one frame more, and, if a bit was put right, one more of these" */
    private static void counts() {
        SquitterDesk desk = new SquitterDesk();
        Bits[] frames = {squitter(100), squitter(100).turn(60), reply(100), brokenSquitter(100), allCall(100).turn(20), squitter(101).turn(9)};
        int[] answers = {0, 1, 0, -3, 1, 1};
        int[] heard = {1, 2, 3, 3, 4, 4};
        int[] mended = {0, 1, 1, 1, 2, 2};
        for (int k = 0; k < frames.length; k++) {
            CHECK.due("hear", frames[k].hear(desk, k), answers[k]);
            CHECK.due("frames", desk.craft(0, 2), heard[k]);
            CHECK.due("put right", desk.craft(0, 3), mended[k]);
        }
        CHECK.due("HEARD last", desk.craft(0, 1), 4);
        CHECK.due("a new one put right", desk.craft(1, 2), 1);
        CHECK.due("a new one put right", desk.craft(1, 3), 1);
    }

    /** "Which CRAFT an ADDRESS is, by the order in which they came; NONE." */
    private static void finding() {
        SquitterDesk desk = new SquitterDesk();
        int[] addresses = {0xFFFFFF, 0, 0x800000, 1};
        for (int k = 0; k < addresses.length; k++) {
            CHECK.due("ahead of it", desk.find(addresses[k]), -1);
            allCall(addresses[k]).hear(desk, 0);
            CHECK.due("by the order", desk.find(addresses[k]), k);
            CHECK.due("its ADDRESS", desk.craft(k, 0), addresses[k]);
        }
        for (int none : new int[] {-1, 2, 0xFFFFFE, 0x1000000, 0x1000001, 0x1FFFFFF, UNKNOWN, 2147483647}) {
            CHECK.due("find(" + none + ")", desk.find(none), -1);
        }
    }

    /** "NONE if there is no such CRAFT" */
    private static void craftsThatAreThere() {
        for (int crafts : new int[] {0, 1, 2, 19, 20}) {
            SquitterDesk desk = new SquitterDesk();
            for (int k = 0; k < crafts; k++) {
                Bits.squitter(100 + k, 4, 0).message(9, 14, 1 + k).seal().hear(desk, k);
            }
            CHECK.due("crafts()", desk.crafts(), crafts);
            for (int i : new int[] {UNKNOWN, -2, -1, 0, 1, 2, 18, 19, 20, 21, 2147483647}) {
                boolean there = i >= 0 && i < crafts;
                CHECK.due("craft(" + i + ", 0) of " + crafts, desk.craft(i, 0), there ? 100 + i : -1);
                CHECK.due("craft(" + i + ", 1) of " + crafts, desk.craft(i, 1), there ? i : -1);
                CHECK.due("craft(" + i + ", 17) of " + crafts, desk.craft(i, 17), there ? UNKNOWN : -1);
                CHECK.due("sign(" + i + ", 0) of " + crafts, desk.sign(i, 0), there ? 'A' + i : -1);
                CHECK.due("sign(" + i + ", 7) of " + crafts, desk.sign(i, 7), there ? '?' : -1);
            }
        }
    }

    /** "or what" */
    private static void whats() {
        SquitterDesk desk = richDesk();
        CHECK.due("the first what", desk.craft(1, 0), 101);
        CHECK.due("the last what", desk.craft(1, 17), 12);
        for (int what : new int[] {UNKNOWN, -1, 18, 2147483647}) {
            CHECK.due("what " + what, desk.craft(1, what), -1);
        }
    }

    /** "UNKNOWN what was never told" */
    private static void neverTold() {
        SquitterDesk desk = new SquitterDesk();
        allCall(100).hear(desk, 7);
        CHECK.due("ADDRESS", desk.craft(0, 0), 100);
        CHECK.due("HEARD last", desk.craft(0, 1), 7);
        CHECK.due("frames", desk.craft(0, 2), 1);
        CHECK.due("put right", desk.craft(0, 3), 0);
        nothingTold(desk, 0);
    }

    /** "Sign k (0 .. 7) of the latest eight signs of CRAFT i ...; NONE if there is none such." */
    private static void signs() {
        SquitterDesk desk = new SquitterDesk();
        allCall(100).hear(desk, 0);
        CHECK.due("ahead of the first signs", desk.sign(0, 0), -1);
        Bits.squitter(100, 4, 0).message(9, 14, 1).message(51, 56, 26).seal().hear(desk, 0);
        CHECK.due("the first sign", desk.sign(0, 0), 'A');
        CHECK.due("the last sign", desk.sign(0, 7), 'Z');
        for (int k : new int[] {UNKNOWN, -1, 8, 2147483647}) {
            CHECK.due("sign " + k, desk.sign(0, k), -1);
        }
        Bits.squitter(100, 1, 0).message(9, 14, 48).seal().hear(desk, 0);
        CHECK.due("the latest eight", desk.sign(0, 0), '0');
        CHECK.due("the latest eight", desk.sign(0, 7), '?');
    }
}
