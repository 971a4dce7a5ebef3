import java.math.BigInteger;
import java.util.ArrayList;
import java.util.List;
import java.util.regex.Matcher;
import java.util.regex.Pattern;

/** The document read a second time, with regular expressions and objects, to compare answers with. */
final class PlainReader {
    private static final String BLANK = "(?>[\\t\\n\\r ]|--(?s:.*?)(?:--|\\n|\\z))";
    private static final Pattern BLANKS = Pattern.compile(BLANK + "*+");
    private static final Pattern WORD = Pattern.compile("[A-Za-z](?:-?[A-Za-z0-9])*+");
    private static final Pattern NUMBER = Pattern.compile("[0-9]++");
    private static final Pattern STRING = Pattern.compile("\"((?:[\\x01-!#-\\x7f]|\"\")*+)\"");
    private static final Pattern BITS = Pattern.compile("'((?:[01]|" + BLANK + ")*+)'B");
    private static final Pattern HEX = Pattern.compile("'((?:[0-9A-F]|" + BLANK + ")*+)'H");
    private static final Pattern SIGN = Pattern.compile("::=|\\.\\.\\.|\\.\\.|[{}()\\[\\],:-]");
    private static final BigInteger BOUND = BigInteger.ONE.shiftLeft(63);

    private static final class Broken extends RuntimeException {
        private static final long serialVersionUID = 1L;
        final int place;

        Broken(int place) {
            super(null, null, false, false);
            this.place = place;
        }
    }

    private record Token(String kind, String text, int place) {
    }

    static final class Node {
        int what;
        int place;
        String id;
        String units = "";
        long number;
        final List<Node> parts = new ArrayList<>();
    }

    private final List<Token> tokens = new ArrayList<>();
    private int at = 0;
    private int open = 0;
    final List<Node> nodes = new ArrayList<>();
    int place = -1;

    PlainReader(String text) {
        split(text);
        try {
            value();
            take("end");
        } catch (Broken e) {
            place = e.place;
            nodes.clear();
        }
    }

    private void split(String text) {
        int p = 0;
        while (true) {
            p += lengthOf(BLANKS, text, p);
            if (p == text.length()) {
                tokens.add(new Token("end", "", p));
                tokens.add(new Token("end", "", p));
                return;
            }
            Token token = tokenAt(text, p);
            tokens.add(token);
            if (token.kind.equals("bad")) {
                tokens.add(token);
                return;
            }
            p += token.text.length();
        }
    }

    private static int lengthOf(Pattern pattern, String text, int p) {
        Matcher matcher = pattern.matcher(text).region(p, text.length());
        return matcher.lookingAt() ? matcher.end() - p : 0;
    }

    private static Token tokenAt(String text, int p) {
        Object[][] kinds = {{"word", WORD}, {"number", NUMBER}, {"string", STRING}, {"bits", BITS}, {"hex", HEX}, {"sign", SIGN}};
        for (Object[] kind : kinds) {
            int length = lengthOf((Pattern) kind[1], text, p);
            if (length > 0) {
                String piece = text.substring(p, p + length);
                return new Token(kindOf((String) kind[0], piece), piece, p);
            }
        }
        return new Token("bad", "", p);
    }

    private static String kindOf(String kind, String piece) {
        switch (kind) {
            case "word":
                return List.of("TRUE", "FALSE", "NULL").contains(piece) ? piece
                        : Character.isLowerCase(piece.charAt(0)) ? "id" : "capital";
            case "number":
                boolean plain = piece.equals("0") || !piece.startsWith("0");
                return plain && new BigInteger(piece).compareTo(BOUND) < 0 ? kind : "bad";
            case "sign":
                return piece;
            default:
                return kind;
        }
    }

    private String kind(int ahead) {
        return at + ahead < tokens.size() ? tokens.get(at + ahead).kind : "end";
    }

    private Token take(String kind) {
        Token token = tokens.get(at);
        if (!token.kind.equals(kind)) {
            throw new Broken(token.place);
        }
        at++;
        return token;
    }

    private void begin() {
        if (open == 60) {
            throw new Broken(tokens.get(at).place);
        }
        open++;
    }

    private Node node(int what) {
        Node node = new Node();
        node.what = what;
        node.place = tokens.get(at).place;
        nodes.add(node);
        return node;
    }

    private static boolean beginsValue(String kind) {
        return List.of("TRUE", "FALSE", "NULL", "number", "id", "bits", "hex", "string", "{", "-").contains(kind);
    }

    private Node value() {
        String kind = kind(0);
        if (!beginsValue(kind)) {
            throw new Broken(tokens.get(at).place);
        }
        if (kind.equals("{")) {
            return braces();
        }
        if (kind.equals("id") && kind(1).equals(":")) {
            Node node = node(9);
            node.id = take("id").text;
            begin();
            take(":");
            node.parts.add(value());
            open--;
            return node;
        }
        if (kind.equals("-")) {
            Node node = node(4);
            take("-");
            node.number = Long.parseLong("-" + take("number").text);
            return node;
        }
        return simple(kind);
    }

    private Node simple(String kind) {
        Node node = node(List.of("", "TRUE", "FALSE", "NULL", "number", "id", "bits", "hex", "string").indexOf(kind));
        String text = take(kind).text;
        switch (kind) {
            case "number":
                node.number = Long.parseLong(text);
                break;
            case "id":
                node.id = text;
                break;
            case "bits":
            case "hex":
                node.units = text.substring(1, text.length() - 2).replaceAll(BLANK, "");
                break;
            case "string":
                node.units = text.substring(1, text.length() - 1).replace("\"\"", "\"");
                break;
            default:
        }
        return node;
    }

    private Node braces() {
        begin();
        Node node = node(11);
        take("{");
        if (kind(0).equals("}")) {
            node.what = 10;
        } else if (kind(0).equals("number") && kind(1).equals("number")) {
            node.what = 13;
            while (kind(0).equals("number")) {
                node.parts.add(simple("number"));
            }
        } else {
            node.what = kind(0).equals("id") && beginsValue(kind(1)) ? 12 : 11;
            list(node);
        }
        take("}");
        open--;
        return node;
    }

    private void list(Node node) {
        while (true) {
            if (node.what == 11) {
                node.parts.add(value());
            } else {
                Node id = node(5);
                id.id = take("id").text;
                id.parts.add(value());
                node.parts.add(id);
            }
            if (!kind(0).equals(",")) {
                return;
            }
            take(",");
        }
    }

    /** As Probe.layout. */
    String layout() {
        StringBuilder line = new StringBuilder();
        for (Node node : nodes) {
            line.append(node == nodes.get(0) ? "" : " ").append(node.what).append('@').append(node.place);
            for (int k = 0; k < node.parts.size(); k++) {
                line.append(k == 0 ? "[" : ",").append(indexOf(node.parts.get(k)));
            }
            line.append(node.parts.isEmpty() ? "" : "]");
            if (node.what == 4) {
                line.append('=').append(node.number);
            }
            for (int i = 0; i < node.units.length(); i++) {
                line.append(i == 0 ? "/" : ".").append((int) node.units.charAt(i));
            }
        }
        return line.toString();
    }

    private int indexOf(Node node) {
        for (int n = 0; n < nodes.size(); n++) {
            if (nodes.get(n) == node) {
                return n;
            }
        }
        return -1;
    }
}
