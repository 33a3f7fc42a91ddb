import java.util.Random;

/** All promises: runs of 512 calls, each answer against that of the model. */
public final class RandomRunsTest {
    private static final int RUNS = 2000;
    private static final int CALLS = 512;
    private static final int[] STEPS = {0, 0, 1, 1, 2, 5, 20, 50, 99, 100, 101, 150, 299, 300, 301, 599, 600, 601};
    private static final int[] FORMATS = {0, 4, 5, 11, 16, 17, 17, 17, 17, 17, 17, 18, 20, 21};

    private final Check check;
    private final Random random;
    private final SquitterDesk desk = new SquitterDesk();
    private final Model model = new Model();
    private final int addresses;
    private final boolean hasty;
    private int called = 0;
    private int time = 0;
    private int latitude;
    private int longitude;
    private String run;

    private RandomRunsTest(Check check, int seed) {
        this.check = check;
        random = new Random(seed);
        addresses = 1 + random.nextInt(26);
        hasty = random.nextBoolean();
        latitude = random.nextInt(180000001) - 90000000;
        longitude = random.nextInt(360000000) - 180000000;
        run = "run " + seed;
    }

    public static void main(String[] args) {
        Check check = new Check();
        int[] answers = new int[8];
        for (int seed = 0; seed < RUNS; seed++) {
            new RandomRunsTest(check, seed).calls(answers);
        }
        for (int answer = -5; answer <= 1; answer++) {
            check.due("hear answered " + answer + " at least once", answers[answer + 5] > 0, true);
        }
        check.finish();
    }

    private void calls(int[] answers) {
        while (called < CALLS) {
            if (random.nextInt(3) == 0) {
                ask();
            } else {
                answers[hear() + 5]++;
            }
        }
    }

    /** The name of the call that comes now. */
    private String next(String call) {
        called++;
        return run + " call " + called + " " + call;
    }

    private int hear() {
        Bits frame = frame();
        int step = hasty ? STEPS[random.nextInt(STEPS.length)] : random.nextInt(4);
        int at = random.nextInt(40) == 0 ? time - 1 - random.nextInt(3) : time + step;
        int a = frame.word(0);
        int b = frame.word(1);
        int c = frame.word(2);
        int d = frame.word(3);
        int due = model.hear(a, b, c, d, at);
        check.due(next("hear(" + a + ", " + b + ", " + c + ", " + d + ", " + at + ")"), desk.hear(a, b, c, d, at), due);
        time = Math.max(time, at);
        int craft = model.find(model.field(11));
        for (int more = random.nextInt(6); more > 0 && called < CALLS; more--) {
            int what = random.nextInt(18);
            check.due(next("craft(" + craft + ", " + what + ")"), desk.craft(craft, what), model.craft(craft, what));
        }
        return due;
    }

    private Bits frame() {
        int df = random.nextInt(30) == 0 ? random.nextInt(32) : FORMATS[random.nextInt(FORMATS.length)];
        int address = 0x400000 + random.nextInt(addresses);
        Bits frame = Bits.of(df).set(6, 32, random.nextInt());
        if (random.nextInt(5) == 0) {
            frame.set(20, 32, 0);
        }
        if (df == 11 || df == 17 || df == 18) {
            frame.set(9, 32, address);
        }
        if (df >= 16) {
            frame.set(33, 64, random.nextInt()).set(57, 88, random.nextInt());
        }
        if (df == 17 || df == 18) {
            message(frame);
        }
        frame.seal(df == 17 || df == 18 ? 0 : df == 11 ? random.nextInt(128) : address);
        for (int wrong = random.nextInt(12) - 9; wrong > 0; wrong--) {
            frame.turn(1 + random.nextInt(df < 16 ? 56 : 112));
        }
        return random.nextBoolean() ? frame.litter() : frame;
    }

    private void message(Bits frame) {
        int kind = random.nextInt(10);
        if (kind >= 5) {
            boolean ground = kind == 5;
            boolean odd = random.nextBoolean();
            latitude = Math.max(-90000000, Math.min(90000000, latitude + random.nextInt(40001) - 20000));
            longitude = Math.max(-180000000, Math.min(179999999, longitude + random.nextInt(40001) - 20000));
            if (random.nextInt(100) == 0) {
                latitude = random.nextInt(180000001) - 90000000;
            }
            frame.message(1, 5, ground ? 5 + random.nextInt(4) : 9 + random.nextInt(10));
            frame.code(odd, SpareDesk.get().encode(latitude, longitude, ground, odd));
        } else if (kind == 4) {
            frame.message(1, 5, 19).message(6, 8, random.nextInt(6));
            if (random.nextInt(4) == 0) {
                frame.message(15, 24, 0);
            }
        } else if (kind == 3) {
            frame.message(1, 5, 28).message(6, 8, 1 + random.nextInt(2));
        }
    }

    private void ask() {
        int x = random.nextInt(24) - 2;
        int y = random.nextInt(24) - 2;
        switch (random.nextInt(10)) {
            case 0: check.due(next("field(" + x + ")"), desk.field(x), model.field(x)); break;
            case 1:
                int from = random.nextInt(120) - 2;
                int many = random.nextInt(37) - 2;
                check.due(next("bits(" + from + ", " + many + ")"), desk.bits(from, many), model.bits(from, many));
                break;
            case 2: check.due(next("crafts()"), desk.crafts(), model.crafts()); break;
            case 3: check.due(next("find"), desk.find(0x400000 + x), model.find(0x400000 + x)); break;
            case 4:
            case 5: check.due(next("craft(" + x + ", " + y + ")"), desk.craft(x, y), model.craft(x, y)); break;
            case 6: check.due(next("sign(" + x + ", " + y + ")"), desk.sign(x, y), model.sign(x, y)); break;
            case 7:
                int north = random.nextInt(200000000) - 100000000;
                int east = random.nextInt(400000000) - 200000000;
                check.due(next("place(" + north + ", " + east + ")"), desk.place(north, east), model.place(north, east));
                break;
            case 8:
                Bits frame = frame();
                check.due(next("syndrome"), frame.syndrome(desk), model.syndrome(frame.word(0), frame.word(1), frame.word(2), frame.word(3)));
                break;
            default:
                Bits other = frame();
                check.due(next("repair"), other.repair(desk), model.repair(other.word(0), other.word(1), other.word(2), other.word(3)));
                break;
        }
    }
}
