/** Every row of up to four tokens, bare and in braces, read by the class and by PlainReader. */
public final class FormsTest {
    private static final String[] TOKENS = {
        "{", "}", ",", ":", "-", "a", "b", "T", "TRUE", "NULL", "0", "7", "'1'B", "'F'H", "\"s\"", "@", "09", "\"", "::=",
    };
    private static final int MOST = 4;

    private static final Probe probe = new Probe();

    public static void main(String[] args) {
        rows("", MOST);
        probe.finish();
    }

    private static void rows(String row, int left) {
        compare(row);
        compare("{" + row + "}");
        for (int i = 0; i < TOKENS.length && left > 0; i++) {
            rows(row + TOKENS[i] + " ", left - 1);
        }
    }

    private static void compare(String text) {
        PlainReader plain = new PlainReader(text);
        NotationReader reader = Probe.fed(text);
        boolean broken = plain.place >= 0;
        probe.due("read <" + text + ">", broken ? "UnsupportedOperationException" : plain.nodes.size(), reader::read);
        probe.due("place <" + text + ">", plain.place, reader::place);
        probe.due("nodes <" + text + ">", plain.layout(), () -> Probe.layout(reader));
    }
}
