import java.nio.charset.StandardCharsets;
import java.util.Objects;

/** What the tests share: feeding a text, naming what a call answered or threw, and counting what is not as due. */
final class Probe {
    interface Call {
        Object answer();
    }

    private int asked = 0;
    private int wrong = 0;

    /** Asks that the call answers what is due; an exception is due by its simple name. */
    void due(String about, Object due, Call call) {
        asked++;
        Object got = outcome(call);
        if (!Objects.equals(String.valueOf(due), String.valueOf(got))) {
            wrong++;
            System.out.println(about + ": answered " + got + ", due is " + due);
        }
    }

    /** Asks that the text is a VALUE with this layout. */
    void lies(String text, String layout) {
        due("<" + text + ">", layout, () -> layout(read(text)));
        due("<" + text + "> place", -1, () -> read(text).place());
    }

    /** Asks that the text is no VALUE, broken at this place, and leaves no nodes. */
    void breaks(String text, int place) {
        due("<" + text + ">", "UnsupportedOperationException", () -> fed(text).read());
        due("<" + text + "> place", place, () -> read(text).place());
        due("<" + text + "> nodes", 0, () -> read(text).count(1));
    }

    void finish() {
        System.out.println(asked + " answers asked for, " + wrong + " not as due");
        if (asked == 0 || wrong != 0) {
            System.exit(1);
        }
    }

    static Object outcome(Call call) {
        try {
            return call.answer();
        } catch (RuntimeException e) {
            return e.getClass().getSimpleName();
        }
    }

    /** Puts the text, a char for a byte, behind what the tape has. */
    static void feed(NotationReader reader, String text) {
        byte[] bytes = text.getBytes(StandardCharsets.ISO_8859_1);
        int odd = bytes.length % 20;
        // What makes no twenty comes first, so that the tape can be filled to its last byte.
        if (odd > 0) {
            int before = reader.count(0);
            feedTwenty(reader, bytes, 0);
            reader.end(before + odd);
        }
        for (int i = odd; i < bytes.length; i += 20) {
            feedTwenty(reader, bytes, i);
        }
    }

    private static void feedTwenty(NotationReader reader, byte[] bytes, int i) {
        reader.feed(word(bytes, i), word(bytes, i + 4), word(bytes, i + 8), word(bytes, i + 12), word(bytes, i + 16));
    }

    static NotationReader fed(String text) {
        NotationReader reader = new NotationReader();
        feed(reader, text);
        return reader;
    }

    /** A reader that has read the text, whether or not it is a VALUE. */
    static NotationReader read(String text) {
        NotationReader reader = fed(text);
        outcome(reader::read);
        return reader;
    }

    private static int word(byte[] bytes, int from) {
        int word = 0;
        for (int i = from; i < from + 4; i++) {
            word = word << 8 | (i < bytes.length ? bytes[i] & 255 : 0);
        }
        return word;
    }

    /** All that the nodes tell, in one line: what, place, parts, digits or bytes, and number of each. */
    static String layout(NotationReader x) {
        StringBuilder line = new StringBuilder();
        for (int n = 0; n < x.count(1); n++) {
            line.append(n == 0 ? "" : " ").append(x.node(n, 0)).append('@').append(x.node(n, 1));
            for (int k = 0; k < x.node(n, 2); k++) {
                line.append(k == 0 ? "[" : ",").append(x.part(n, k));
            }
            line.append(x.node(n, 2) > 0 ? "]" : "");
            if (x.node(n, 0) == 4) {
                line.append('=').append(x.number(n));
            }
            for (int i = 0; i < x.node(n, 3); i++) {
                line.append(i == 0 ? "/" : ".").append(x.unit(n, i));
            }
        }
        return line.toString();
    }
}
