import java.util.Random;

/** Made-up tapes, right ones and spoilt ones, read by the class and by PlainReader: both must answer the same. */
public final class CompareTest {
    private static final int ROUNDS = 60000;
    private static final String[] BLANKS = {"", "", "", " ", " ", "\t", "\n", "\r\n", "--c--", "-- c\n", "----", " --- --"};
    private static final String[] PIECES = {
        "{", "}", "{}", ",", ":", "-", "--", "::=", "..", "...", "(", ")", "[", "]", "a", "ab", "a-b", "a-", "Abc", "TRUE",
        "FALSE", "NULL", "MIN", "0", "1", "00", "9223372036854775807", "9223372036854775808", "\"", "\"\"", "\"x\"", "'",
        "'01'B", "'0A'H", "'B", "'H", "\n", " ", "\u0000", "\u0080", "@", ".", "=",
    };

    private static final Probe probe = new Probe();
    private static final Random random = new Random(20261115);

    public static void main(String[] args) {
        int values = 0;
        NotationReader reader = new NotationReader();
        for (int i = 0; i < ROUNDS; i++) {
            String text = i % 3 == 0 ? heap() : value(random.nextInt(5));
            for (int spoilt = random.nextInt(3); spoilt > 0; spoilt--) {
                text = spoil(text);
            }
            if (text.length() <= 4000) {
                // A reader used again must answer as a new one does; but nothing is promised after 512 calls.
                reader = i % 2 == 0 ? new NotationReader() : reader;
                values += compare(text, reader);
            }
        }
        int read = values;
        probe.due("enough of the tapes are values", true, () -> read > ROUNDS / 5 && read < ROUNDS * 4 / 5);
        probe.finish();
    }

    private static int compare(String text, NotationReader reader) {
        PlainReader plain = new PlainReader(text);
        Probe.feed(reader, text);
        boolean broken = plain.place >= 0;
        probe.due("read <" + text + ">", broken ? "UnsupportedOperationException" : plain.nodes.size(), reader::read);
        probe.due("place <" + text + ">", plain.place, reader::place);
        probe.due("length <" + text + ">", 0, () -> reader.count(0));
        probe.due("nodes <" + text + ">", plain.layout(), () -> Probe.layout(reader));
        if (!broken) {
            compareNames(text, plain, reader);
        }
        return broken ? 0 : 1;
    }

    private static void compareNames(String text, PlainReader plain, NotationReader reader) {
        for (int i = 0; i < 3; i++) {
            int a = random.nextInt(plain.nodes.size());
            int b = random.nextInt(plain.nodes.size());
            String one = plain.nodes.get(a).id;
            String other = plain.nodes.get(b).id;
            Object due = one == null || other == null ? "UnsupportedOperationException" : one.equals(other);
            probe.due("same(" + a + ", " + b + ") <" + text + ">", due, () -> reader.same(a, b));
        }
    }

    private static String blank() {
        return BLANKS[random.nextInt(BLANKS.length)];
    }

    private static String id() {
        return new String[] {"a", "b", "ab", "aB-1", "x9"}[random.nextInt(5)];
    }

    private static String simple() {
        switch (random.nextInt(9)) {
            case 0:
                return "TRUE";
            case 1:
                return "FALSE";
            case 2:
                return "NULL";
            case 3:
                return Long.toString(random.nextLong() >>> random.nextInt(64));
            case 4:
                return "-" + blank() + random.nextInt(100);
            case 5:
                return id();
            case 6:
                return "'" + (random.nextBoolean() ? "0" : "") + blank() + "1" + blank() + "'B";
            case 7:
                return "'" + blank() + Integer.toHexString(random.nextInt()).toUpperCase() + blank() + "'H";
            default:
                return "\"" + (random.nextBoolean() ? "\"\"" : "t") + "x\n".substring(random.nextInt(3)) + "\"";
        }
    }

    private static String value(int depth) {
        if (depth == 0) {
            return blank() + simple() + blank();
        }
        switch (random.nextInt(6)) {
            case 0:
                return id() + blank() + ":" + blank() + value(depth - 1);
            case 1:
                return "{" + blank() + "}" + blank();
            case 2:
                return "{" + random.nextInt(9) + " " + random.nextInt(9) + blank() + " 5" + blank() + "}";
            case 3:
                return "{" + items(depth, true) + "}" + blank();
            case 4:
                return "{" + items(depth, false) + "}" + blank();
            default:
                return chain(random.nextInt(64));
        }
    }

    private static String items(int depth, boolean named) {
        StringBuilder text = new StringBuilder();
        for (int left = random.nextInt(4); left >= 0; left--) {
            text.append(named ? id() + " " : "").append(value(depth - 1)).append(left > 0 ? "," + blank() : "");
        }
        return text.toString();
    }

    /** As many { and : as the bound nearly, or just not, allows. */
    private static String chain(int open) {
        StringBuilder text = new StringBuilder();
        int braces = 0;
        for (int i = 0; i < open; i++) {
            boolean brace = random.nextBoolean();
            text.append(brace ? random.nextBoolean() ? "{" : "{a " : "a:").append(blank());
            braces += brace ? 1 : 0;
        }
        return text.append("1").append("}".repeat(braces)).toString();
    }

    private static String heap() {
        StringBuilder text = new StringBuilder();
        for (int left = random.nextInt(8); left > 0; left--) {
            text.append(PIECES[random.nextInt(PIECES.length)]).append(blank());
        }
        return text.toString();
    }

    private static String spoil(String text) {
        int at = random.nextInt(text.length() + 1);
        int to = Math.min(text.length(), at + random.nextInt(3));
        String piece = random.nextInt(4) == 0 ? "" : PIECES[random.nextInt(PIECES.length)];
        return text.substring(0, at) + piece + text.substring(to);
    }
}
