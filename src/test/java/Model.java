import java.util.ArrayList;
import java.util.List;
import java.util.NoSuchElementException;

/** The promises once more, as plainly as can be, over PlainReader: what a run of calls is due to answer. */
final class Model {
    private String tape = "";
    private List<PlainReader.Node> nodes = new ArrayList<>();
    private int place = -1;

    int feed(int... words) {
        if (tape.length() + 20 > 4096) {
            throw new IndexOutOfBoundsException();
        }
        StringBuilder text = new StringBuilder(tape);
        for (int word : words) {
            for (int shift = 24; shift >= 0; shift -= 8) {
                text.append((char) (word >> shift & 255));
            }
        }
        tape = text.toString();
        return tape.length();
    }

    int end(int n) {
        inRange(n, tape.length() + 1);
        tape = tape.substring(0, n);
        return n;
    }

    int read() {
        PlainReader plain = new PlainReader(tape);
        tape = "";
        nodes = plain.nodes;
        place = plain.place;
        if (place >= 0) {
            throw new UnsupportedOperationException();
        }
        return nodes.size();
    }

    int place() {
        return place;
    }

    int node(int n, int what) {
        inRange(n, nodes.size());
        inRange(what, 4);
        PlainReader.Node node = nodes.get(n);
        return new int[] {node.what, node.place, node.parts.size(), node.units.length()}[what];
    }

    int part(int n, int k) {
        inRange(n, nodes.size());
        List<PlainReader.Node> parts = nodes.get(n).parts;
        thereIs(k, parts.size());
        return nodes.indexOf(parts.get(k));
    }

    long number(int n) {
        inRange(n, nodes.size());
        supported(nodes.get(n).what == 4);
        return nodes.get(n).number;
    }

    int unit(int n, int i) {
        inRange(n, nodes.size());
        String units = nodes.get(n).units;
        thereIs(i, units.length());
        return units.charAt(i);
    }

    boolean same(int a, int b) {
        inRange(a, nodes.size());
        inRange(b, nodes.size());
        supported(nodes.get(a).id != null && nodes.get(b).id != null);
        return nodes.get(a).id.equals(nodes.get(b).id);
    }

    int count(int what) {
        inRange(what, 2);
        return what == 0 ? tape.length() : nodes.size();
    }

    private static void inRange(int n, int bound) {
        if (n < 0 || n >= bound) {
            throw new IllegalArgumentException();
        }
    }

    private static void thereIs(int n, int bound) {
        if (n < 0 || n >= bound) {
            throw new NoSuchElementException();
        }
    }

    private static void supported(boolean so) {
        if (!so) {
            throw new UnsupportedOperationException();
        }
    }
}
