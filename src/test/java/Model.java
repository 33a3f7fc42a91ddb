import java.math.BigInteger;
import java.util.ArrayList;
import java.util.List;
import java.util.Set;

/** The document, written once more as near to its words as can be: texts for bits, exact fractions for places. */
final class Model {
    static final int NONE = -1;
    static final int UNKNOWN = Integer.MIN_VALUE;
    static final String BOUNDS =
        "1047047130 1482817437 1818626357 2102939493 2354504487 2582924707 2793898710 2991135686 3177209708 3353993436 "
        + "3522899598 3685025108 3841241892 3992256684 4138651832 4280914012 4419454951 4554626723 4686733252 4816039128 "
        + "4942776439 5067150166 5189342469 5309516153 5427817472 5544378444 5659318756 5772747354 5884763776 5995459277 "
        + "6104917774 6213216659 6320427479 6426616523 6531845310 6636171008 6739646774 6842322022 6944242631 7045451075 "
        + "7145986473 7245884545 7345177442 7443893416 7542056257 7639684391 7736789461 7833374083 7929428225 8024923213 "
        + "8119801349 8213956981 8307199445 8399173563 8489166191 8575541621 8653536998 8700000000";
    private static final String[] BOUND = BOUNDS.split(" ");
    private static final Set<Integer> KNOWN = Set.of(0, 4, 5, 11, 16, 17, 18, 20, 21);

    private static final class Craft {
        final int[] value = new int[18];
        String signs = null;
        Long even = null;
        Long odd = null;
        int evenTime;
        int oddTime;
    }

    private final List<Craft> book = new ArrayList<>();
    private String latest = null;
    private int latestTurned = NONE;
    private int latestTime = 0;
    private boolean hasPlace = false;
    private int placeLatitude;
    private int placeLongitude;

    // ---- frames

    private static String text(int a, int b, int c, int d) {
        StringBuilder all = new StringBuilder();
        for (int word : new int[] {a, b, c, d}) {
            all.append(String.format("%32s", Integer.toBinaryString(word)).replace(' ', '0'));
        }
        return all.substring(0, Integer.parseInt(all.substring(0, 5), 2) < 16 ? 56 : 112);
    }

    private static int get(String frame, int first, int last) {
        return Integer.parseUnsignedInt(frame.substring(first - 1, last), 2);
    }

    private static String turn(String frame, int bit) {
        char other = frame.charAt(bit - 1) == '1' ? '0' : '1';
        return frame.substring(0, bit - 1) + other + frame.substring(bit);
    }

    int syndrome(int a, int b, int c, int d) {
        return Bits.remainder(text(a, b, c, d));
    }

    private static int repair(String frame) {
        int df = get(frame, 1, 5);
        int syndrome = Bits.remainder(frame);
        boolean needs = df == 11 ? syndrome >= 128 : (df == 17 || df == 18) && syndrome != 0;
        for (int bit = 6; needs && bit <= frame.length(); bit++) {
            if (Bits.remainder(turn(frame, bit)) == 0) {
                return bit;
            }
        }
        return NONE;
    }

    int repair(int a, int b, int c, int d) {
        return repair(text(a, b, c, d));
    }

    int seal(int a, int b, int c, int d) {
        String frame = text(a, b, c, d);
        return Bits.remainder(frame.substring(0, frame.length() - 24) + "0".repeat(24));
    }

    // ---- the book

    boolean place(int latitude, int longitude) {
        if (!isPlace(latitude, longitude)) {
            return false;
        }
        hasPlace = true;
        placeLatitude = latitude;
        placeLongitude = longitude;
        return true;
    }

    int hear(int a, int b, int c, int d, int time) {
        if (time < 0 || time > 1000000000 || time < latestTime) {
            return NONE;
        }
        latestTime = time;
        book.removeIf(craft -> craft.value[1] < time - 600);
        String frame = text(a, b, c, d);
        int df = get(frame, 1, 5);
        if (!KNOWN.contains(df)) {
            return -2;
        }
        boolean own = df == 11 || df == 17 || df == 18;
        int turned = NONE;
        if (own && Bits.remainder(frame) >= (df == 11 ? 128 : 1)) {
            turned = repair(frame);
            if (turned == NONE) {
                return -3;
            }
            frame = turn(frame, turned);
        }
        int address = own ? get(frame, 9, 32) : Bits.remainder(frame);
        int at = find(address);
        if (at == NONE && !own) {
            return -4;
        }
        if (at == NONE && book.size() == 20) {
            return -5;
        }
        if (at == NONE) {
            at = book.size();
            book.add(fresh(address));
        }
        latest = frame;
        latestTurned = turned;
        Craft craft = book.get(at);
        craft.value[1] = time;
        craft.value[2]++;
        craft.value[3] += turned == NONE ? 0 : 1;
        if (Set.of(0, 4, 16, 20).contains(df)) {
            craft.value[4] = altitude(frame.substring(19, 32));
        }
        if (df == 5 || df == 21) {
            craft.value[5] = squawk(frame.substring(19, 32));
        }
        if (df == 17 || df == 18) {
            tell(craft, frame.substring(32, 88), time);
        }
        return turned == NONE ? 0 : 1;
    }

    private static Craft fresh(int address) {
        Craft craft = new Craft();
        java.util.Arrays.fill(craft.value, UNKNOWN);
        craft.value[0] = address;
        craft.value[2] = 0;
        craft.value[3] = 0;
        return craft;
    }

    private void tell(Craft craft, String m, int time) {
        int type = get(m, 1, 5);
        int sub = get(m, 6, 8);
        int[] v = craft.value;
        if (type >= 1 && type <= 4) {
            v[6] = 10 * (5 - type) + sub;
            StringBuilder signs = new StringBuilder();
            for (int first = 9; first < 57; first += 6) {
                signs.append("?ABCDEFGHIJKLMNOPQRSTUVWXYZ????? ???????????????0123456789??????".charAt(get(m, first, first + 5)));
            }
            craft.signs = signs.toString();
        }
        if (type >= 5 && type <= 8) {
            v[14] = 1;
            v[9] = moved(get(m, 6, 12));
            v[10] = get(m, 13, 13) == 0 ? UNKNOWN : 360000 * get(m, 14, 20) / 128;
            craft.even = null;
            craft.odd = null;
            long code = 131072L * get(m, 23, 39) + get(m, 40, 56);
            boolean odd = get(m, 22, 22) == 1;
            if (v[17] != UNKNOWN && time - v[17] <= 300) {
                keep(craft, local(code, true, odd, v[15], v[16]), time);
            } else if (hasPlace) {
                keep(craft, local(code, true, odd, placeLatitude, placeLongitude), time);
            }
        }
        if (type >= 9 && type <= 18 || type >= 20 && type <= 22) {
            v[14] = 0;
            if (type <= 18) {
                v[4] = altitude(m.substring(8, 14) + "0" + m.substring(14, 20));
            }
            air(craft, 131072L * get(m, 23, 39) + get(m, 40, 56), get(m, 22, 22) == 1, time);
        }
        if (type == 19 && sub >= 1 && sub <= 4) {
            velocity(v, m, sub);
        }
        if (type == 28 && sub == 1) {
            v[12] = get(m, 9, 11);
            v[5] = squawk(m.substring(11, 24));
        }
        if (type == 31) {
            v[13] = get(m, 41, 43);
        }
    }

    private void air(Craft craft, long code, boolean odd, int time) {
        if (odd) {
            craft.odd = code;
            craft.oddTime = time;
        } else {
            craft.even = code;
            craft.evenTime = time;
        }
        int[] v = craft.value;
        Long other = odd ? craft.even : craft.odd;
        int otherTime = odd ? craft.evenTime : craft.oddTime;
        if (v[17] != UNKNOWN && time - v[17] <= 300) {
            keep(craft, local(code, false, odd, v[15], v[16]), time);
        } else if (other != null && time - otherTime <= 100) {
            keep(craft, global(craft.even, craft.odd, odd), time);
        }
    }

    private static void keep(Craft craft, long told, int time) {
        if (told != Long.MIN_VALUE) {
            craft.value[15] = (int) (told >> 32);
            craft.value[16] = (int) told;
            craft.value[17] = time;
        }
    }

    private static void velocity(int[] v, String m, int sub) {
        int four = sub % 2 == 0 ? 4 : 1;
        int first = get(m, 15, 24);
        int second = get(m, 26, 35);
        if (sub <= 2) {
            v[7] = first == 0 ? UNKNOWN : four * (first - 1) * (get(m, 14, 14) == 1 ? -1 : 1);
            v[8] = second == 0 ? UNKNOWN : four * (second - 1) * (get(m, 25, 25) == 1 ? -1 : 1);
            v[9] = first == 0 || second == 0 ? UNKNOWN
                : BigInteger.valueOf(64L * ((long) v[7] * v[7] + (long) v[8] * v[8])).sqrt().intValueExact();
        } else {
            v[10] = get(m, 14, 14) == 0 ? UNKNOWN : 360000 * first / 1024;
            v[9] = second == 0 ? UNKNOWN : 8 * four * (second - 1);
        }
        int climb = get(m, 38, 46);
        v[11] = climb == 0 ? UNKNOWN : 64 * (climb - 1) * (get(m, 37, 37) == 1 ? -1 : 1);
    }

    static int moved(int move) {
        if (move == 0 || move > 124) {
            return UNKNOWN;
        }
        int speed = 0;
        for (int k = 2; k <= move; k++) {
            speed += k <= 9 ? 1 : k <= 13 ? 2 : k <= 39 ? 4 : k <= 94 ? 8 : k <= 109 ? 16 : 40;
        }
        return speed;
    }

    /** A bit by its name, in the order that the names are told. */
    private static String named(String bits, String order, String names) {
        StringBuilder got = new StringBuilder();
        for (String name : names.split(" ")) {
            got.append(bits.charAt(List.of(order.split(" ")).indexOf(name)));
        }
        return got.toString();
    }

    private static int ungray(String code) {
        for (int number = 0; number < 256; number++) {
            if ((number ^ number >> 1) == Integer.parseInt(code, 2)) {
                return number;
            }
        }
        throw new IllegalStateException(code);
    }

    static int altitude(String ac) {
        String order = "C1 A1 C2 A2 C4 A4 M B1 Q B2 D2 B4 D4";
        if (!ac.contains("1") || named(ac, order, "M").equals("1")) {
            return UNKNOWN;
        }
        if (named(ac, order, "Q").equals("1")) {
            return 25 * Integer.parseInt(named(ac, order, "C1 A1 C2 A2 C4 A4 B1 B2 D2 B4 D4"), 2) - 1000;
        }
        int g = ungray(named(ac, order, "D2 D4 A1 A2 A4 B1 B2 B4"));
        int h = ungray(named(ac, order, "C1 C2 C4"));
        if (h == 0 || h == 5 || h == 6) {
            return UNKNOWN;
        }
        h = h == 7 ? 5 : h;
        h = g % 2 == 1 ? 6 - h : h;
        return 500 * g + 100 * h - 1300;
    }

    static int squawk(String id) {
        int number = 0;
        for (String digit : new String[] {"A4 A2 A1", "B4 B2 B1", "C4 C2 C1", "D4 D2 D1"}) {
            number = 10 * number + Integer.parseInt(named(id, "C1 A1 C2 A2 C4 A4 X B1 D1 B2 D2 B4 D4", digit), 2);
        }
        return number;
    }

    // ---- what is asked

    int field(int what) {
        if (latest == null) {
            return NONE;
        }
        Set<Integer> ca = Set.of(11, 17, 18);
        Set<Integer> fs = Set.of(4, 5, 20, 21);
        Set<Integer> vs = Set.of(0, 16);
        Set<Integer> es = Set.of(17, 18);
        int df = get(latest, 1, 5);
        switch (what) {
            case 0: return df;
            case 1: return part(6, 8, ca);
            case 2: return part(6, 8, fs);
            case 3: return part(9, 13, fs);
            case 4: return part(14, 19, fs);
            case 5: return part(6, 6, vs);
            case 6: return part(7, 7, Set.of(0));
            case 7: return part(9, 11, vs);
            case 8: return part(14, 17, vs);
            case 9: return part(20, 32, Set.of(0, 4, 16, 20));
            case 10: return part(20, 32, Set.of(5, 21));
            case 11: return ca.contains(df) ? get(latest, 9, 32) : Bits.remainder(latest);
            case 12: return df == 11 ? Bits.remainder(latest) : NONE;
            case 13: return part(33, 37, es);
            case 14: return part(38, 40, es);
            case 15: return latestTurned;
            default: return NONE;
        }
    }

    private int part(int first, int last, Set<Integer> dfs) {
        return dfs.contains(get(latest, 1, 5)) ? get(latest, first, last) : NONE;
    }

    int bits(int from, int many) {
        if (latest == null || many < 1 || many > 32 || from < 1 || (long) from + many - 1 > latest.length()) {
            return 0;
        }
        return get(latest, from, from + many - 1);
    }

    int crafts() {
        return book.size();
    }

    int find(int address) {
        for (int i = 0; i < book.size(); i++) {
            if (book.get(i).value[0] == address) {
                return i;
            }
        }
        return NONE;
    }

    int craft(int i, int what) {
        return i < 0 || i >= book.size() || what < 0 || what > 17 ? NONE : book.get(i).value[what];
    }

    int sign(int i, int k) {
        return i < 0 || i >= book.size() || k < 0 || k > 7 || book.get(i).signs == null ? NONE : book.get(i).signs.charAt(k);
    }

    // ---- compact positions

    private static boolean isPlace(long latitude, long longitude) {
        return latitude >= -90000000 && latitude <= 90000000 && longitude >= -180000000 && longitude <= 179999999;
    }

    private static boolean isCode(long told) {
        return told >= 0 && told <= (1L << 34) - 1;
    }

    private static Fraction degrees(long millionths) {
        return Fraction.of(millionths, 1000000);
    }

    private static Fraction part(long told) {
        return Fraction.of(told, 131072);
    }

    private static long telling(Fraction degrees) {
        return degrees.times(Fraction.of(1000000)).floor();
    }

    private static long pack(Fraction latitude, Fraction longitude) {
        return (telling(latitude) << 32) + (telling(longitude) & 0xFFFFFFFFL);
    }

    private static int nl(Fraction latitude) {
        Fraction size = latitude.abs().times(Fraction.of(100000000));
        for (int n = 59; n >= 3; n--) {
            if (size.isBelow(Long.parseLong(BOUND[59 - n]))) {
                return n;
            }
        }
        return size.isAbove(Long.parseLong(BOUND[57])) ? 1 : 2;
    }

    int zones(int latitude) {
        return isPlace(latitude, 0) ? nl(degrees(latitude)) : NONE;
    }

    long encode(int latitude, int longitude, boolean ground, boolean odd) {
        if (!isPlace(latitude, longitude)) {
            return NONE;
        }
        long t = ground ? 90 : 360;
        int p = odd ? 1 : 0;
        Fraction z = Fraction.of(t, 60 - p);
        Fraction at = degrees(latitude).over(z);
        long k = at.floor();
        long y = at.rest().times(Fraction.of(131072)).plus(Fraction.of(1, 2)).floor();
        int n = Math.max(1, nl(z.times(Fraction.of(k).plus(part(y)))) - p);
        long x = degrees(longitude).over(Fraction.of(t, n)).rest().times(Fraction.of(131072)).plus(Fraction.of(1, 2)).floor();
        return 131072 * (y % 131072) + x % 131072;
    }

    long global(long even, long odd, boolean byOdd) {
        if (!isCode(even) || !isCode(odd)) {
            return Long.MIN_VALUE;
        }
        long y0 = even >> 17;
        long y1 = odd >> 17;
        long x0 = even & 131071;
        long x1 = odd & 131071;
        long j = Fraction.of(59 * y0 - 60 * y1, 131072).plus(Fraction.of(1, 2)).floor();
        Fraction l0 = Fraction.of(360, 60).times(Fraction.of(Math.floorMod(j, 60L)).plus(part(y0)));
        Fraction l1 = Fraction.of(360, 59).times(Fraction.of(Math.floorMod(j, 59L)).plus(part(y1)));
        l0 = l0.isBelow(270) ? l0 : l0.minus(Fraction.of(360));
        l1 = l1.isBelow(270) ? l1 : l1.minus(Fraction.of(360));
        if (l0.abs().isAbove(90) || l1.abs().isAbove(90) || nl(l0) != nl(l1)) {
            return Long.MIN_VALUE;
        }
        int nl = nl(l0);
        int n = Math.max(1, byOdd ? nl - 1 : nl);
        long m = Fraction.of(x0 * (nl - 1) - x1 * nl, 131072).plus(Fraction.of(1, 2)).floor();
        Fraction longitude = Fraction.of(360, n).times(Fraction.of(Math.floorMod(m, (long) n)).plus(part(byOdd ? x1 : x0)));
        longitude = longitude.isBelow(180) ? longitude : longitude.minus(Fraction.of(360));
        return pack(byOdd ? l1 : l0, longitude);
    }

    long local(long told, boolean ground, boolean odd, int latitude, int longitude) {
        if (!isCode(told) || !isPlace(latitude, longitude)) {
            return Long.MIN_VALUE;
        }
        long t = ground ? 90 : 360;
        int p = odd ? 1 : 0;
        Fraction l = near(degrees(latitude), Fraction.of(t, 60 - p), told >> 17);
        if (l.abs().isAbove(90)) {
            return Long.MIN_VALUE;
        }
        Fraction g = near(degrees(longitude), Fraction.of(t, Math.max(1, nl(l) - p)), told & 131071);
        g = g.isBelow(-180) ? g.plus(Fraction.of(360)) : g;
        g = g.isBelow(180) ? g : g.minus(Fraction.of(360));
        return pack(l, g);
    }

    private static Fraction near(Fraction size, Fraction zone, long told) {
        Fraction at = size.over(zone);
        long j = at.floor() + Fraction.of(1, 2).plus(at.rest()).minus(part(told)).floor();
        return zone.times(Fraction.of(j).plus(part(told)));
    }
}
