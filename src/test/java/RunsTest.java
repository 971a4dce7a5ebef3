import java.nio.charset.StandardCharsets;
import java.util.Random;

/** Runs of 512 calls, refused ones among them, on a new object and on Model: both must answer the same. */
public final class RunsTest {
    private static final int RUNS = 800;
    private static final int CALLS = 512;
    private static final int[] FAR = {
        Integer.MIN_VALUE, Integer.MIN_VALUE + 1, -2, -1, 0, 1, Integer.MAX_VALUE - 1, Integer.MAX_VALUE,
    };

    private static final Probe probe = new Probe();
    private static final Random random = new Random(20261116);
    private static final Tapes tapes = new Tapes(random);

    private NotationReader reader = new NotationReader();
    private Model model = new Model();
    private int calls = 0;

    public static void main(String[] args) {
        for (int i = 0; i < RUNS; i++) {
            new RunsTest().run(i % 8 == 0);
        }
        probe.finish();
    }

    private void run(boolean toTheBrim) {
        while (calls < CALLS) {
            if (toTheBrim) {
                fill();
            }
            feed(random.nextInt(4) == 0 ? tapes.value(1) : tapes.next());
            for (int i = random.nextInt(20); i > 0; i--) {
                ask();
            }
            both("read()", reader::read, model::read);
            for (int i = random.nextInt(60); i > 0; i--) {
                ask();
            }
        }
    }

    /** Leaves so little room that what is fed next comes just to the tape's end, or beyond it. */
    private void fill() {
        for (int i = 0; i < 200; i++) {
            feedTwenty(new byte[] {' ', '\n'}, 0);
        }
        int length = model.count(0) - random.nextInt(20);
        both("end(" + length + ")", () -> reader.end(length), () -> model.end(length));
    }

    private void feed(String text) {
        byte[] bytes = text.getBytes(StandardCharsets.ISO_8859_1);
        for (int i = 0; i < bytes.length; i += 20) {
            feedTwenty(bytes, i);
        }
        int surplus = bytes.length % 20 == 0 ? 0 : 20 - bytes.length % 20;
        int length = model.count(0) - surplus;
        both("end(" + length + ")", () -> reader.end(length), () -> model.end(length));
    }

    private void feedTwenty(byte[] bytes, int from) {
        int[] words = new int[5];
        for (int i = 0; i < 20; i++) {
            int b = from + i < bytes.length ? bytes[from + i] & 255 : ' ';
            words[i / 4] = words[i / 4] << 8 | b;
        }
        both("feed", () -> reader.feed(words[0], words[1], words[2], words[3], words[4]), () -> model.feed(words));
    }

    /** Any call but feed and read, with an argument in its range, at its edge, or far out of it. */
    private void ask() {
        int n = near(model.count(1));
        int m = near(model.count(1));
        switch (random.nextInt(9)) {
            case 0:
                int over = model.count(0) + 1 + random.nextInt(3);
                int wrong = random.nextBoolean() ? over : -1 - random.nextInt(3);
                both("end(" + wrong + ")", () -> reader.end(wrong), () -> model.end(wrong));
                break;
            case 1:
                both("place()", reader::place, model::place);
                break;
            case 2:
                int what = near(4);
                both("node(" + n + ", " + what + ")", () -> reader.node(n, what), () -> model.node(n, what));
                break;
            case 3:
                both("part(" + n + ", " + m + ")", () -> reader.part(n, m), () -> model.part(n, m));
                break;
            case 4:
                int k = near(4);
                both("part(" + n + ", " + k + ")", () -> reader.part(n, k), () -> model.part(n, k));
                break;
            case 5:
                both("number(" + n + ")", () -> reader.number(n), () -> model.number(n));
                break;
            case 6:
                int i = near(4);
                both("unit(" + n + ", " + i + ")", () -> reader.unit(n, i), () -> model.unit(n, i));
                break;
            case 7:
                both("same(" + n + ", " + m + ")", () -> reader.same(n, m), () -> model.same(n, m));
                break;
            default:
                int which = near(2);
                both("count(" + which + ")", () -> reader.count(which), () -> model.count(which));
        }
    }

    private static int near(int bound) {
        int pick = random.nextInt(20);
        if (pick == 0) {
            return FAR[random.nextInt(FAR.length)];
        }
        return pick == 1 ? bound + random.nextInt(2) : pick == 2 ? bound - 1 : random.nextInt(bound + 1);
    }

    private void both(String about, Probe.Call call, Probe.Call due) {
        if (calls < CALLS) {
            calls++;
            probe.due("call " + calls + ", " + about, Probe.outcome(due), call);
        }
    }
}
