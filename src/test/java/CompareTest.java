import java.util.Random;

/** Made-up tapes, right ones and spoilt ones, read by the class and by PlainReader: both must answer the same. */
public final class CompareTest {
    private static final int ROUNDS = 60000;
    private static final Probe probe = new Probe();
    private static final Random random = new Random(20261115);
    private static final Tapes tapes = new Tapes(random);

    public static void main(String[] args) {
        int values = 0;
        NotationReader reader = new NotationReader();
        for (int i = 0; i < ROUNDS; i++) {
            String text = tapes.next();
            if (text.length() <= 4000) {
                // A reader used again must answer as a new one does; but nothing is promised after 512 calls.
                reader = i % 2 == 0 ? new NotationReader() : reader;
                values += compare(text, reader);
            }
        }
        int read = values;
        probe.due("enough of the tapes are values", true, () -> read > ROUNDS / 5 && read < ROUNDS * 4 / 5);
        probe.finish();
    }

    private static int compare(String text, NotationReader reader) {
        PlainReader plain = new PlainReader(text);
        Probe.feed(reader, text);
        boolean broken = plain.place >= 0;
        probe.due("read <" + text + ">", broken ? "UnsupportedOperationException" : plain.nodes.size(), reader::read);
        probe.due("place <" + text + ">", plain.place, reader::place);
        probe.due("length <" + text + ">", 0, () -> reader.count(0));
        probe.due("nodes <" + text + ">", plain.layout(), () -> Probe.layout(reader));
        if (!broken) {
            compareNames(text, plain, reader);
        }
        return broken ? 0 : 1;
    }

    private static void compareNames(String text, PlainReader plain, NotationReader reader) {
        for (int i = 0; i < 3; i++) {
            int a = random.nextInt(plain.nodes.size());
            int b = random.nextInt(plain.nodes.size());
            String one = plain.nodes.get(a).id;
            String other = plain.nodes.get(b).id;
            Object due = one == null || other == null ? "UnsupportedOperationException" : one.equals(other);
            probe.due("same(" + a + ", " + b + ") <" + text + ">", due, () -> reader.same(a, b));
        }
    }
}
