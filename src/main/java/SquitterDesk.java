import java.util.Arrays;

/**
 * A desk that hears Mode S transponders: it checks and mends frames, tells their fields,
 * works out compact positions by whole numbers alone, and keeps a book of who was heard.
 */
public final class SquitterDesk {
    public static final int NONE = -1;
    public static final int UNKNOWN = -2147483648;

    private static final int REFUSED_FORMAT = -2;
    private static final int REFUSED_SYNDROME = -3;
    private static final int REFUSED_STRANGER = -4;
    private static final int REFUSED_FULL = -5;
    private static final int LAST_TIME = 1000000000;
    private static final long NO_PLACE = -9223372036854775808L;

    private final Frame draft;
    private final Frame latest;
    private final Book book;
    private long ownPlace;
    private int clock;

    public SquitterDesk() {
        draft = new Frame();
        latest = new Frame();
        book = new Book();
        ownPlace = NO_PLACE;
        clock = 0;
    }

    public int syndrome(int a, int b, int c, int d) {
        draft.write(a, b, c, d);
        return draft.remainder();
    }

    public int repair(int a, int b, int c, int d) {
        draft.write(a, b, c, d);
        return draft.wrongBit();
    }

    public int seal(int a, int b, int c, int d) {
        draft.write(a, b, c, d);
        // The parity adds itself to the remainder, so taking it off leaves what it should have been.
        return draft.remainder() ^ draft.parity();
    }

    public boolean place(int latitude, int longitude) {
        if (!Compact.isPlace(latitude, longitude)) {
            return false;
        }
        ownPlace = Compact.pack(latitude, longitude);
        return true;
    }

    public int hear(int a, int b, int c, int d, int time) {
        if (time < clock || time > LAST_TIME) {
            return NONE;
        }
        clock = time;
        book.forgetSilent(time);
        draft.write(a, b, c, d);
        if (!draft.isOf(Frame.KNOWN)) {
            return REFUSED_FORMAT;
        }
        if (!draft.putRight()) {
            return REFUSED_SYNDROME;
        }
        int address = draft.address();
        Craft craft = book.at(book.indexOf(address));
        if (craft == null && !draft.isOf(Frame.TELLING_ADDRESS)) {
            return REFUSED_STRANGER;
        }
        if (craft == null) {
            craft = book.open(address);
        }
        if (craft == null) {
            return REFUSED_FULL;
        }
        latest.copy(draft);
        craft.countFrame(latest, time);
        craft.learnReply(latest);
        craft.learnMessage(latest, time, ownPlace);
        return latest.turnedBit() == NONE ? 0 : 1;
    }

    public int field(int what) {
        return latest.told(what);
    }

    public int bits(int from, int many) {
        return latest.number(from, many);
    }

    public int crafts() {
        return book.size();
    }

    public int find(int address) {
        return book.indexOf(address);
    }

    public int craft(int i, int what) {
        Craft craft = book.at(i);
        return craft == null ? NONE : craft.value(what);
    }

    public int sign(int i, int k) {
        Craft craft = book.at(i);
        return craft == null ? NONE : craft.letter(k);
    }

    public int zones(int latitude) {
        if (!Compact.isPlace(latitude, 0)) {
            return NONE;
        }
        return Compact.zoneCount(100L * latitude, 1);
    }

    public long encode(int latitude, int longitude, boolean ground, boolean odd) {
        if (!Compact.isPlace(latitude, longitude)) {
            return NONE;
        }
        return Compact.code(latitude, longitude, ground, odd);
    }

    public long global(long even, long odd, boolean byOdd) {
        if (!Compact.isCode(even) || !Compact.isCode(odd)) {
            return NO_PLACE;
        }
        return Compact.placeOfPair(even, odd, byOdd);
    }

    public long local(long told, boolean ground, boolean odd, int latitude, int longitude) {
        if (!Compact.isCode(told) || !Compact.isPlace(latitude, longitude)) {
            return NO_PLACE;
        }
        return Compact.placeNear(told, ground, odd, Compact.pack(latitude, longitude));
    }

    /** A frame of 56 or 112 bits; one that was never written has none. */
    private static final class Frame {
        // Sets of DFs: the bit whose number is the DF is 1.
        static final int TELLING_MESSAGE = 1 << 17 | 1 << 18;
        static final int TELLING_ADDRESS = 1 << 11 | TELLING_MESSAGE;
        static final int TELLING_ALTITUDE = 1 | 1 << 4 | 1 << 16 | 1 << 20;
        static final int TELLING_IDENTITY = 1 << 5 | 1 << 21;
        static final int KNOWN = TELLING_ADDRESS | TELLING_ALTITUDE | TELLING_IDENTITY;
        private static final int ALL_CALL = 1 << 11;
        private static final int SHORT_AIR = 1;
        private static final int AIR_TO_AIR = 1 | 1 << 16;
        private static final int REPLIES = 1 << 4 | 1 << 5 | 1 << 20 | 1 << 21;

        private static final int GENERATOR = 0x1FFF409;
        private static final int GENERATOR_TOP = 0x1000000;
        private static final int INTERROGATORS = 128;
        private static final int FIRST_MENDABLE = 6;
        private static final int AHEAD_OF_MESSAGE = 32;

        private final int[] words;
        private int length;
        private int turned;

        Frame() {
            words = new int[4];
            length = 0;
            turned = NONE;
        }

        void write(int a, int b, int c, int d) {
            words[0] = a;
            words[1] = b;
            words[2] = c;
            words[3] = d;
            length = format() < 16 ? 56 : 112;
            turned = NONE;
        }

        void copy(Frame other) {
            System.arraycopy(other.words, 0, words, 0, words.length);
            length = other.length;
            turned = other.turned;
        }

        int turnedBit() {
            return turned;
        }

        /** Some 1 .. 32 bits as a number; 0 if they are not all there. */
        int number(int from, int many) {
            if (many < 1 || many > 32 || from < 1 || from > length - many + 1) {
                return 0;
            }
            int number = 0;
            for (int i = from; i < from + many; i++) {
                number = number << 1 | bit(i);
            }
            return number;
        }

        /** Bits of the message, which are numbered from 1 on in it. */
        int message(int first, int last) {
            return number(AHEAD_OF_MESSAGE + first, last - first + 1);
        }

        int parity() {
            return number(length - 23, 24);
        }

        int remainder() {
            int remainder = 0;
            for (int i = 1; i <= length; i++) {
                remainder = reduced(remainder << 1 | bit(i));
            }
            return remainder;
        }

        /** The bit that is to be turned; NONE also if no bit has to be. */
        int wrongBit() {
            int remainder = remainder();
            if (isSound(remainder)) {
                return NONE;
            }
            int ofThisBit = 1;
            for (int i = length; i >= FIRST_MENDABLE; i--) {
                if (ofThisBit == remainder) {
                    return i;
                }
                ofThisBit = reduced(ofThisBit << 1);
            }
            return NONE;
        }

        /** Turns the wrong bit, if there is one; false if the frame stays one that can't be. */
        boolean putRight() {
            if (isSound(remainder())) {
                return true;
            }
            int wrong = wrongBit();
            if (wrong == NONE) {
                return false;
            }
            turn(wrong);
            turned = wrong;
            return true;
        }

        int address() {
            return isOf(TELLING_ADDRESS) ? number(9, 24) : remainder();
        }

        boolean isOf(int formats) {
            return length != 0 && ((formats >>> format()) & 1) != 0;
        }

        /** What field() tells, by its numbers. */
        int told(int what) {
            switch (what) {
                case 0: return length == 0 ? NONE : format();
                case 1: return part(6, 8, TELLING_ADDRESS);
                case 2: return part(6, 8, REPLIES);
                case 3: return part(9, 13, REPLIES);
                case 4: return part(14, 19, REPLIES);
                case 5: return part(6, 6, AIR_TO_AIR);
                case 6: return part(7, 7, SHORT_AIR);
                case 7: return part(9, 11, AIR_TO_AIR);
                case 8: return part(14, 17, AIR_TO_AIR);
                case 9: return part(20, 32, TELLING_ALTITUDE);
                case 10: return part(20, 32, TELLING_IDENTITY);
                case 11: return length == 0 ? NONE : address();
                case 12: return isOf(ALL_CALL) ? remainder() : NONE;
                case 13: return part(33, 37, TELLING_MESSAGE);
                case 14: return part(38, 40, TELLING_MESSAGE);
                case 15: return turned;
                default: return NONE;
            }
        }

        private int part(int first, int last, int formats) {
            return isOf(formats) ? number(first, last - first + 1) : NONE;
        }

        private int format() {
            return words[0] >>> 27;
        }

        private boolean isSound(int remainder) {
            if (isOf(TELLING_MESSAGE)) {
                return remainder == 0;
            }
            return !isOf(ALL_CALL) || remainder < INTERROGATORS;
        }

        private int bit(int i) {
            int word = (i - 1) >> 5;
            if (word < 0 || word >= words.length) {
                return 0;
            }
            return (words[word] >>> (31 - (i - 1) % 32)) & 1;
        }

        private void turn(int i) {
            int word = (i - 1) >> 5;
            if (word >= 0 && word < words.length) {
                words[word] ^= 1 << (31 - (i - 1) % 32);
            }
        }

        private static int reduced(int polynomial) {
            return (polynomial & GENERATOR_TOP) == 0 ? polynomial : polynomial ^ GENERATOR;
        }
    }

    /** The crafts that were heard, in the order in which they came. */
    private static final class Book {
        private static final int MOST = 20;
        private static final int LONGEST_SILENCE = 600;

        // The rows behind the first ones are spare, so that no call has to make a craft.
        private final Craft[] rows;
        private int size;

        Book() {
            rows = new Craft[MOST];
            for (int i = 0; i < rows.length; i++) {
                rows[i] = new Craft();
            }
            size = 0;
        }

        int size() {
            return size;
        }

        Craft at(int i) {
            return i < 0 || i >= size || i >= rows.length ? null : rows[i];
        }

        int indexOf(int address) {
            for (int i = 0; i < size && i < rows.length; i++) {
                if (rows[i].value(Craft.ADDRESS) == address) {
                    return i;
                }
            }
            return NONE;
        }

        /** A new craft at the end; null if there is no room. */
        Craft open(int address) {
            if (size >= rows.length) {
                return null;
            }
            Craft craft = rows[size];
            craft.begin(address);
            size++;
            return craft;
        }

        void forgetSilent(int time) {
            int kept = 0;
            for (int i = 0; i < size && i < rows.length; i++) {
                Craft craft = rows[i];
                if (time - craft.value(Craft.HEARD) <= LONGEST_SILENCE) {
                    rows[i] = rows[kept];
                    rows[kept] = craft;
                    kept++;
                }
            }
            size = kept;
        }
    }

    /** What is known of one craft. */
    private static final class Craft {
        // The numbers by which craft() is asked.
        static final int ADDRESS = 0;
        static final int HEARD = 1;
        private static final int FRAMES = 2;
        private static final int MENDED = 3;
        private static final int ALTITUDE = 4;
        private static final int SQUAWK = 5;
        private static final int CATEGORY = 6;
        private static final int EAST = 7;
        private static final int NORTH = 8;
        private static final int SPEED = 9;
        private static final int HEADING = 10;
        private static final int CLIMB = 11;
        private static final int EMERGENCY = 12;
        private static final int VERSION = 13;
        private static final int GROUND = 14;
        private static final int LATITUDE = 15;
        private static final int LONGITUDE = 16;
        private static final int PLACE_TIME = 17;

        private static final int OLDEST_PLACE = 300;
        private static final int OLDEST_PARTNER = 100;

        private final int[] values;
        private final int[] letters;
        // The latest compact position in the air, and its time: of the even ones first, then of the odd ones.
        private final long[] codes;
        private final int[] codeTimes;

        Craft() {
            values = new int[18];
            letters = new int[8];
            codes = new long[2];
            codeTimes = new int[2];
        }

        void begin(int address) {
            Arrays.fill(values, UNKNOWN);
            Arrays.fill(letters, NONE);
            Arrays.fill(codes, NONE);
            values[ADDRESS] = address;
            values[FRAMES] = 0;
            values[MENDED] = 0;
        }

        int value(int what) {
            return what < 0 || what >= values.length ? NONE : values[what];
        }

        int letter(int k) {
            return k < 0 || k >= letters.length ? NONE : letters[k];
        }

        void countFrame(Frame frame, int time) {
            values[HEARD] = time;
            values[FRAMES]++;
            if (frame.turnedBit() != NONE) {
                values[MENDED]++;
            }
        }

        void learnReply(Frame frame) {
            if (frame.isOf(Frame.TELLING_ALTITUDE)) {
                values[ALTITUDE] = Codes.altitude(frame.number(20, 13));
            }
            if (frame.isOf(Frame.TELLING_IDENTITY)) {
                values[SQUAWK] = Codes.squawk(frame.number(20, 13));
            }
        }

        void learnMessage(Frame frame, int time, long ownPlace) {
            if (!frame.isOf(Frame.TELLING_MESSAGE)) {
                return;
            }
            int type = frame.message(1, 5);
            int sub = frame.message(6, 8);
            if (type >= 1 && type <= 4) {
                learnName(frame, 10 * (5 - type) + sub);
            } else if (type >= 5 && type <= 8) {
                learnOnGround(frame, time, ownPlace);
            } else if (type == 19) {
                learnMotion(frame, sub);
            } else if (type >= 9 && type <= 22) {
                learnInAir(frame, type, time);
            } else if (type == 28 && sub == 1) {
                values[EMERGENCY] = frame.message(9, 11);
                values[SQUAWK] = Codes.squawk(frame.message(12, 24));
            } else if (type == 31) {
                values[VERSION] = frame.message(41, 43);
            }
        }

        private void learnName(Frame frame, int category) {
            values[CATEGORY] = category;
            for (int k = 0; k < letters.length; k++) {
                letters[k] = Codes.letter(frame.message(9 + 6 * k, 14 + 6 * k));
            }
        }

        private void learnOnGround(Frame frame, int time, long ownPlace) {
            values[GROUND] = 1;
            values[SPEED] = Codes.groundSpeed(frame.message(6, 12));
            values[HEADING] = frame.message(13, 13) == 0 ? UNKNOWN : 360000 * frame.message(14, 20) / 128;
            Arrays.fill(codes, NONE);
            long from = hasFreshPlace(time) ? lastPlace() : ownPlace;
            if (from != NO_PLACE) {
                keepPlace(Compact.placeNear(codeIn(frame), true, isOdd(frame), from), time);
            }
        }

        private void learnInAir(Frame frame, int type, int time) {
            values[GROUND] = 0;
            if (type <= 18) {
                values[ALTITUDE] = Codes.altitude(Codes.withM(frame.message(9, 20)));
            }
            boolean odd = isOdd(frame);
            long code = codeIn(frame);
            int mine = odd ? 1 : 0;
            int other = 1 - mine;
            codes[mine] = code;
            codeTimes[mine] = time;
            if (hasFreshPlace(time)) {
                keepPlace(Compact.placeNear(code, false, odd, lastPlace()), time);
            } else if (codes[other] != NONE && time - codeTimes[other] <= OLDEST_PARTNER) {
                keepPlace(Compact.placeOfPair(codes[0], codes[1], odd), time);
            }
        }

        private void learnMotion(Frame frame, int sub) {
            if (sub < 1 || sub > 4) {
                return;
            }
            int unit = sub == 2 || sub == 4 ? 4 : 1;
            if (sub <= 2) {
                int east = Codes.lessOne(frame.message(15, 24), unit, frame.message(14, 14));
                int north = Codes.lessOne(frame.message(26, 35), unit, frame.message(25, 25));
                values[EAST] = east;
                values[NORTH] = north;
                values[SPEED] = Codes.speedOf(east, north);
            } else {
                values[HEADING] = frame.message(14, 14) == 0 ? UNKNOWN : 360000 * frame.message(15, 24) / 1024;
                values[SPEED] = Codes.lessOne(frame.message(26, 35), 8 * unit, 0);
            }
            values[CLIMB] = Codes.lessOne(frame.message(38, 46), 64, frame.message(37, 37));
        }

        private boolean hasFreshPlace(int time) {
            return values[PLACE_TIME] != UNKNOWN && time - values[PLACE_TIME] <= OLDEST_PLACE;
        }

        private long lastPlace() {
            return Compact.pack(values[LATITUDE], values[LONGITUDE]);
        }

        private void keepPlace(long place, int time) {
            if (place == NO_PLACE) {
                return;
            }
            values[LATITUDE] = Compact.latitudeOf(place);
            values[LONGITUDE] = Compact.longitudeOf(place);
            values[PLACE_TIME] = time;
        }

        private static boolean isOdd(Frame frame) {
            return frame.message(22, 22) == 1;
        }

        private static long codeIn(Frame frame) {
            return Compact.STEPS * frame.message(23, 39) + frame.message(40, 56);
        }
    }

    /** The codes in which frames and messages tell numbers. */
    private static final class Codes {
        private static final int M_BIT = 0x40;
        private static final int Q_BIT = 0x10;

        /** Feet, by the 13 bits C1 A1 C2 A2 C4 A4 M B1 Q B2 D2 B4 D4. */
        static int altitude(int code) {
            if (code == 0 || (code & M_BIT) != 0) {
                return UNKNOWN;
            }
            if ((code & Q_BIT) != 0) {
                return 25 * ((code >> 2 & 0x7E0) | (code >> 1 & 0x10) | (code & 0xF)) - 1000;
            }
            return altitudeOfGray(code);
        }

        /** The 13 bits of an altitude from 12 that lack M. */
        static int withM(int code) {
            return (code & 0xFC0) << 1 | (code & 0x3F);
        }

        private static int altitudeOfGray(int code) {
            int d = (code >> 2 & 1) << 1 | (code & 1);
            int fiveHundreds = ofGray(d << 6 | three(code, 11, 9, 7) << 3 | three(code, 5, 3, 1));
            int hundreds = ofGray(three(code, 12, 10, 8));
            if (hundreds == 0 || hundreds == 5 || hundreds == 6) {
                return UNKNOWN;
            }
            if (hundreds == 7) {
                hundreds = 5;
            }
            // Every other five hundred the hundreds run backwards, so that one bit changes at a time.
            if ((fiveHundreds & 1) == 1) {
                hundreds = 6 - hundreds;
            }
            return 500 * fiveHundreds + 100 * hundreds - 1300;
        }

        private static int ofGray(int code) {
            int number = code ^ (code >> 4);
            number ^= number >> 2;
            return number ^ (number >> 1);
        }

        /** Four digits, by the 13 bits C1 A1 C2 A2 C4 A4 X B1 D1 B2 D2 B4 D4. */
        static int squawk(int code) {
            int a = three(code, 7, 9, 11);
            int b = three(code, 1, 3, 5);
            int c = three(code, 8, 10, 12);
            int d = three(code, 0, 2, 4);
            return 1000 * a + 100 * b + 10 * c + d;
        }

        /** Three bits of a code as a number, the highest named first; bit 0 is the code's lowest. */
        private static int three(int code, int high, int middle, int low) {
            return (code >> high & 1) << 2 | (code >> middle & 1) << 1 | (code >> low & 1);
        }

        static int letter(int code) {
            if (code >= 1 && code <= 26) {
                return 'A' + code - 1;
            }
            boolean isItself = code == 32 || (code >= 48 && code <= 57);
            return isItself ? code : '?';
        }

        /** Eighths of a knot. */
        static int groundSpeed(int move) {
            if (move < 1 || move > 124) {
                return UNKNOWN;
            }
            if (move < 9) {
                return move - 1;
            }
            if (move < 13) {
                return 8 + 2 * (move - 9);
            }
            if (move < 39) {
                return 16 + 4 * (move - 13);
            }
            if (move < 94) {
                return 120 + 8 * (move - 39);
            }
            if (move < 109) {
                return 560 + 16 * (move - 94);
            }
            return 800 + 40 * (move - 109);
        }

        static int lessOne(int number, int unit, int below) {
            if (number == 0) {
                return UNKNOWN;
            }
            return below == 1 ? -unit * (number - 1) : unit * (number - 1);
        }

        /** Eighths of a knot, from knots. */
        static int speedOf(int east, int north) {
            if (east == UNKNOWN || north == UNKNOWN) {
                return UNKNOWN;
            }
            return root(64L * ((long) east * east + (long) north * north));
        }

        private static int root(long square) {
            long root = 0;
            for (int k = 15; k >= 0; k--) {
                long more = root + (1L << k);
                if (more * more <= square) {
                    root = more;
                }
            }
            return (int) root;
        }
    }

    /**
     * Compact positions. A turn is cut into zones and each zone into STEPS steps; a size is held as
     * the count of its steps from 0 degrees on, so that nothing is rounded before it is told.
     */
    private static final class Compact {
        static final long STEPS = 131072;
        private static final long HALF_ZONE = 65536;
        private static final long FULL_TURN = 360000000;
        private static final long HALF_TURN = 180000000;
        private static final long QUARTER_TURN = 90000000;
        private static final long EVEN_BANDS = 60;
        private static final long ODD_BANDS = 59;

        private static final int MOST_ZONES = 59;
        private static final long BOUND_OF_TWO = 8700000000L;
        // Of 59 zones down to 3, in hundred-millionths of a degree.
        private static final long[] BOUNDS = {
            1047047130L, 1482817437L, 1818626357L, 2102939493L, 2354504487L, 2582924707L,
            2793898710L, 2991135686L, 3177209708L, 3353993436L, 3522899598L, 3685025108L,
            3841241892L, 3992256684L, 4138651832L, 4280914012L, 4419454951L, 4554626723L,
            4686733252L, 4816039128L, 4942776439L, 5067150166L, 5189342469L, 5309516153L,
            5427817472L, 5544378444L, 5659318756L, 5772747354L, 5884763776L, 5995459277L,
            6104917774L, 6213216659L, 6320427479L, 6426616523L, 6531845310L, 6636171008L,
            6739646774L, 6842322022L, 6944242631L, 7045451075L, 7145986473L, 7245884545L,
            7345177442L, 7443893416L, 7542056257L, 7639684391L, 7736789461L, 7833374083L,
            7929428225L, 8024923213L, 8119801349L, 8213956981L, 8307199445L, 8399173563L,
            8489166191L, 8575541621L, 8653536998L
        };

        static boolean isPlace(int latitude, int longitude) {
            return latitude >= -QUARTER_TURN && latitude <= QUARTER_TURN
                && longitude >= -HALF_TURN && longitude < HALF_TURN;
        }

        static boolean isCode(long code) {
            return code >= 0 && code < STEPS * STEPS;
        }

        static long pack(long latitude, long longitude) {
            return latitude << 32 | (longitude & 0xFFFFFFFFL);
        }

        static int latitudeOf(long place) {
            return (int) (place >> 32);
        }

        static int longitudeOf(long place) {
            return (int) place;
        }

        /** NL of the latitude top / bottom, in hundred-millionths of a degree; bottom is above 0. */
        static int zoneCount(long top, long bottom) {
            long size = Math.abs(top);
            for (int i = 0; i < BOUNDS.length; i++) {
                if (size < BOUNDS[i] * bottom) {
                    return MOST_ZONES - i;
                }
            }
            return size <= BOUND_OF_TWO * bottom ? 2 : 1;
        }

        static long code(int latitude, int longitude, boolean ground, boolean odd) {
            long turn = turnOf(ground);
            long bands = bandsOf(odd);
            long y = nearestStep(latitude, bands, turn);
            long zones = zonesOf(zoneCountAt(y, bands, turn), odd);
            long x = nearestStep(longitude, zones, turn);
            return STEPS * Math.floorMod(y, STEPS) + Math.floorMod(x, STEPS);
        }

        static long placeOfPair(long even, long odd, boolean byOdd) {
            long j = Math.floorDiv(ODD_BANDS * yOf(even) - EVEN_BANDS * yOf(odd) + HALF_ZONE, STEPS);
            long evenY = stepInBand(j, yOf(even), EVEN_BANDS);
            long oddY = stepInBand(j, yOf(odd), ODD_BANDS);
            if (isBeyondPole(evenY, EVEN_BANDS, FULL_TURN) || isBeyondPole(oddY, ODD_BANDS, FULL_TURN)) {
                return NO_PLACE;
            }
            int count = zoneCountAt(evenY, EVEN_BANDS, FULL_TURN);
            if (count != zoneCountAt(oddY, ODD_BANDS, FULL_TURN)) {
                return NO_PLACE;
            }
            long zones = zonesOf(count, byOdd);
            long m = Math.floorDiv(xOf(even) * (count - 1) - xOf(odd) * count + HALF_ZONE, STEPS);
            long x = STEPS * remainder(m, zones) + xOf(byOdd ? odd : even);
            return placeAt(byOdd ? oddY : evenY, x, zones, false, byOdd);
        }

        static long placeNear(long told, boolean ground, boolean odd, long place) {
            long turn = turnOf(ground);
            long bands = bandsOf(odd);
            long y = stepNear(latitudeOf(place), yOf(told), bands, turn);
            if (isBeyondPole(y, bands, turn)) {
                return NO_PLACE;
            }
            long zones = zonesOf(zoneCountAt(y, bands, turn), odd);
            long x = stepNear(longitudeOf(place), xOf(told), zones, turn);
            return placeAt(y, x, zones, ground, odd);
        }

        private static long placeAt(long y, long x, long zones, boolean ground, boolean odd) {
            long turn = turnOf(ground);
            long latitude = quotient(turn * y, bandsOf(odd) * STEPS);
            long longitude = quotient(turn * x, zones * STEPS);
            // A whole turn is a whole number of millionths, so it may be taken off what is cut already.
            if (longitude >= HALF_TURN) {
                longitude -= FULL_TURN;
            } else if (longitude < -HALF_TURN) {
                longitude += FULL_TURN;
            }
            return pack(latitude, longitude);
        }

        private static long turnOf(boolean ground) {
            return ground ? QUARTER_TURN : FULL_TURN;
        }

        private static long bandsOf(boolean odd) {
            return odd ? ODD_BANDS : EVEN_BANDS;
        }

        private static long zonesOf(int count, boolean odd) {
            return Math.max(1, odd ? count - 1 : count);
        }

        private static long yOf(long code) {
            return code / STEPS;
        }

        private static long xOf(long code) {
            return code % STEPS;
        }

        private static long nearestStep(long size, long zones, long turn) {
            return quotient(2 * size * zones * STEPS + turn, 2 * turn);
        }

        /** The step whose place in its zone is told and that is nearest to a size. */
        private static long stepNear(long size, long told, long zones, long turn) {
            long zone = quotient(size * zones * STEPS + turn * (HALF_ZONE - told), turn * STEPS);
            return STEPS * zone + told;
        }

        private static long stepInBand(long j, long y, long bands) {
            long step = STEPS * remainder(j, bands) + y;
            return 4 * step >= 3 * bands * STEPS ? step - bands * STEPS : step;
        }

        private static boolean isBeyondPole(long y, long bands, long turn) {
            return turn * Math.abs(y) > QUARTER_TURN * bands * STEPS;
        }

        private static int zoneCountAt(long y, long bands, long turn) {
            return zoneCount(100 * turn * y, bands * STEPS);
        }

        private static long quotient(long top, long bottom) {
            return bottom <= 0 ? 0 : Math.floorDiv(top, bottom);
        }

        private static long remainder(long top, long bottom) {
            return bottom <= 0 ? 0 : Math.floorMod(top, bottom);
        }
    }
}
