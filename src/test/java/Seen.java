/** All that a desk answers of its state, as one text: two desks that differ in what can be seen have two texts. */
final class Seen {
    private static final int[] BITS = {1, 33, 57, 81};

    private Seen() {
    }

    /** Some 100 calls for a book of three crafts, so that two of these texts and more fit into an object's 512. */
    static String of(SquitterDesk desk) {
        StringBuilder seen = new StringBuilder();
        for (int what = 0; what < 16; what++) {
            seen.append(desk.field(what)).append(' ');
        }
        for (int from : BITS) {
            seen.append(desk.bits(from, from == 33 ? 24 : 32)).append(' ');
        }
        int crafts = desk.crafts();
        seen.append(crafts);
        for (int i = 0; i < crafts; i++) {
            seen.append('\n');
            for (int what = 0; what < 18; what++) {
                seen.append(desk.craft(i, what)).append(' ');
            }
            for (int k = 0; k < 8; k++) {
                seen.append(desk.sign(i, k)).append(' ');
            }
        }
        return seen.toString();
    }
}
