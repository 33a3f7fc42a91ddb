/** Promise 1: a new object, and what is asked of it ahead of any frame. */
public final class NewObjectTest {
    public static void main(String[] args) {
        Check check = new Check();
        SquitterDesk desk = new SquitterDesk();
        check.due("NONE", SquitterDesk.NONE, -1);
        check.due("UNKNOWN", SquitterDesk.UNKNOWN, Integer.MIN_VALUE);
        check.due("crafts()", desk.crafts(), 0);
        check.due("find(0)", desk.find(0), -1);
        for (int what = -1; what <= 18; what++) {
            check.due("field(" + what + ")", desk.field(what), -1);
            check.due("craft(0, " + what + ")", desk.craft(0, what), -1);
            check.due("sign(0, " + what + ")", desk.sign(0, what), -1);
        }
        check.due("bits(1, 5)", desk.bits(1, 5), 0);
        check.due("bits(1, 1)", desk.bits(1, 1), 0);

        Bits onGround = Bits.position(1, 6, false, 0).seal();
        check.due("time -1", onGround.hear(desk, -1), -1);
        check.due("time 0", onGround.hear(desk, 0), 0);
        check.due("no own place", desk.craft(0, 15), SquitterDesk.UNKNOWN);
        check.due("no own place", desk.craft(0, 17), SquitterDesk.UNKNOWN);

        SquitterDesk asked = new SquitterDesk();
        Bits frame = Bits.squitter(7, 4, 0).seal();
        frame.syndrome(asked);
        frame.repair(asked);
        frame.sealedBy(asked);
        check.due("syndrome, repair and seal hear nothing", asked.field(0), -1);
        check.due("syndrome, repair and seal hear nothing", asked.crafts(), 0);
        check.due("syndrome, repair and seal hear nothing", asked.bits(1, 5), 0);
        check.finish();
    }
}
