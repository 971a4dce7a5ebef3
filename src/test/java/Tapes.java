import java.util.Random;

/** Makes up tapes: values, values spoilt in a place or two, and heaps of pieces. */
final class Tapes {
    private static final String[] BLANKS = {"", "", "", " ", " ", "\t", "\n", "\r\n", "--c--", "-- c\n", "----", " --- --"};
    private static final String[] PIECES = {
        "{", "}", "{}", ",", ":", "-", "--", "::=", "..", "...", "(", ")", "[", "]", "a", "ab", "a-b", "a-", "Abc", "TRUE",
        "FALSE", "NULL", "MIN", "0", "1", "00", "9223372036854775807", "9223372036854775808", "\"", "\"\"", "\"x\"", "'",
        "'01'B", "'0A'H", "'B", "'H", "\n", " ", "\u0000", "\u0080", "@", ".", "=",
    };

    private final Random random;

    Tapes(Random random) {
        this.random = random;
    }

    String next() {
        String text = random.nextInt(3) == 0 ? heap() : value(random.nextInt(5));
        for (int spoilt = random.nextInt(3); spoilt > 0; spoilt--) {
            text = spoil(text);
        }
        return text;
    }

    private String blank() {
        return BLANKS[random.nextInt(BLANKS.length)];
    }

    private String id() {
        return new String[] {"a", "b", "ab", "aB-1", "x9"}[random.nextInt(5)];
    }

    private String simple() {
        switch (random.nextInt(9)) {
            case 0:
                return "TRUE";
            case 1:
                return "FALSE";
            case 2:
                return "NULL";
            case 3:
                return Long.toString(random.nextLong() >>> random.nextInt(64));
            case 4:
                return "-" + blank() + random.nextInt(100);
            case 5:
                return id();
            case 6:
                return "'" + (random.nextBoolean() ? "0" : "") + blank() + "1" + blank() + "'B";
            case 7:
                return "'" + blank() + Integer.toHexString(random.nextInt()).toUpperCase() + blank() + "'H";
            default:
                return "\"" + (random.nextBoolean() ? "\"\"" : "t") + "x\n".substring(random.nextInt(3)) + "\"";
        }
    }

    String value(int depth) {
        if (depth == 0) {
            return blank() + simple() + blank();
        }
        switch (random.nextInt(6)) {
            case 0:
                return id() + blank() + ":" + blank() + value(depth - 1);
            case 1:
                return "{" + blank() + "}" + blank();
            case 2:
                return "{" + random.nextInt(9) + " " + random.nextInt(9) + blank() + " 5" + blank() + "}";
            case 3:
                return "{" + items(depth, true) + "}" + blank();
            case 4:
                return "{" + items(depth, false) + "}" + blank();
            default:
                return chain(random.nextInt(64));
        }
    }

    private String items(int depth, boolean named) {
        StringBuilder text = new StringBuilder();
        for (int left = random.nextInt(4); left >= 0; left--) {
            text.append(named ? id() + " " : "").append(value(depth - 1)).append(left > 0 ? "," + blank() : "");
        }
        return text.toString();
    }

    /** As many { and : as the bound nearly, or just not, allows. */
    private String chain(int open) {
        StringBuilder text = new StringBuilder();
        int braces = 0;
        for (int i = 0; i < open; i++) {
            boolean brace = random.nextBoolean();
            text.append(brace ? random.nextBoolean() ? "{" : "{a " : "a:").append(blank());
            braces += brace ? 1 : 0;
        }
        return text.append("1").append("}".repeat(braces)).toString();
    }

    private String heap() {
        StringBuilder text = new StringBuilder();
        for (int left = random.nextInt(8); left > 0; left--) {
            text.append(PIECES[random.nextInt(PIECES.length)]).append(blank());
        }
        return text.toString();
    }

    private String spoil(String text) {
        int at = random.nextInt(text.length() + 1);
        int to = Math.min(text.length(), at + random.nextInt(3));
        String piece = random.nextInt(4) == 0 ? "" : PIECES[random.nextInt(PIECES.length)];
        return text.substring(0, at) + piece + text.substring(to);
    }
}
