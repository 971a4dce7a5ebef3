import java.util.ArrayList;
import java.util.NoSuchElementException;

/** Reads one VALUE in the notation of abstract syntax from a tape of bytes and lays it out as nodes. */
public final class NotationReader {
    private static final int MOST_BYTES = 4096;
    private static final int FED_BYTES = 20;
    private static final int MOST_OPEN = 60;
    private static final int NO_PLACE = -1;

    // What a node is, as node(n, 0) tells it; a token that is a VALUE by itself bears the same number.
    private static final int TRUE = 1;
    private static final int FALSE = 2;
    private static final int NULL = 3;
    private static final int NUMBER = 4;
    private static final int ID = 5;
    private static final int BITS = 6;
    private static final int HEX = 7;
    private static final int STRING = 8;
    private static final int CHOICE = 9;
    private static final int EMPTY = 10;
    private static final int VALUES = 11;
    private static final int NAMED = 12;
    private static final int NUMBERS = 13;

    // Tokens that are no VALUE by themselves. STRAY is what can stand nowhere in a VALUE: type names, kept
    // words and signs of other notations, and what is no token at all; all of these break it at their first byte.
    private static final int OPEN = 21;
    private static final int CLOSE = 22;
    private static final int COMMA = 23;
    private static final int COLON = 24;
    private static final int MINUS = 25;
    private static final int END = 26;
    private static final int STRAY = 27;

    private final Tape tape;
    private final ArrayList<Node> nodes;
    private int place;

    public NotationReader() {
        tape = new Tape();
        nodes = new ArrayList<>();
        place = NO_PLACE;
    }

    public int feed(int a, int b, int c, int d, int e) throws IndexOutOfBoundsException {
        if (tape.length > MOST_BYTES - FED_BYTES) {
            throw new IndexOutOfBoundsException("the tape would have more than 4096 bytes");
        }
        tape.put(a);
        tape.put(b);
        tape.put(c);
        tape.put(d);
        tape.put(e);
        return tape.length;
    }

    public int end(int n) throws IllegalArgumentException {
        if (n < 0 || n > tape.length) {
            throw new IllegalArgumentException("the tape has no such length to keep");
        }
        tape.length = n;
        return n;
    }

    public int read() throws UnsupportedOperationException {
        nodes.clear();
        tape.start();
        value(0);
        demand(END);
        tape.length = 0;
        place = NO_PLACE;
        return nodes.size();
    }

    public int place() {
        return place;
    }

    public int node(int n, int what) throws IllegalArgumentException {
        Node node = nodeAt(n);
        switch (what) {
            case 0:
                return node.kind;
            case 1:
                return node.begin;
            case 2:
                return node.parts;
            case 3:
                return node.units();
            default:
                throw new IllegalArgumentException("what is 0 .. 3");
        }
    }

    public int part(int n, int k) throws IllegalArgumentException, NoSuchElementException {
        Node whole = nodeAt(n);
        if (k < 0 || k >= whole.parts) {
            throw new NoSuchElementException("the node has no such part");
        }
        int part = n + 1;
        for (int i = 0; i < k && part < nodes.size(); i++) {
            part = nodes.get(part).after;
        }
        return part;
    }

    public long number(int n) throws IllegalArgumentException, UnsupportedOperationException {
        Node node = nodeAt(n);
        if (node.kind != NUMBER) {
            throw new UnsupportedOperationException("the node is no number");
        }
        return node.value;
    }

    public int unit(int n, int i) throws IllegalArgumentException, NoSuchElementException {
        Node node = nodeAt(n);
        if (i < 0 || i >= node.units()) {
            throw new NoSuchElementException("the node has no such digit or byte");
        }
        return tape.letter(node.first + i);
    }

    public boolean same(int a, int b) throws IllegalArgumentException, UnsupportedOperationException {
        Node one = nodeAt(a);
        Node other = nodeAt(b);
        if (!one.hasId() || !other.hasId()) {
            throw new UnsupportedOperationException("a node is no identifier");
        }
        boolean alike = one.letters == other.letters;
        for (int i = 0; i < one.letters && alike; i++) {
            alike = tape.letter(one.first + i) == tape.letter(other.first + i);
        }
        return alike;
    }

    public int count(int what) throws IllegalArgumentException {
        if (what != 0 && what != 1) {
            throw new IllegalArgumentException("what is 0 or 1");
        }
        return what == 0 ? tape.length : nodes.size();
    }

    private Node nodeAt(int n) {
        if (n < 0 || n >= nodes.size()) {
            throw new IllegalArgumentException("there is no such node");
        }
        return nodes.get(n);
    }

    /** Reads the VALUE that begins here, inside of as many { and : as are open. */
    private void value(int open) {
        int kind = tape.here.kind;
        if (kind == OPEN) {
            braces(open);
        } else if (kind == ID && tape.ahead.kind == COLON) {
            choice(open);
        } else if (kind == MINUS) {
            negative();
        } else if (beginsValue(kind)) {
            add(kind);
            tape.advance();
        } else {
            refuse();
        }
    }

    private void choice(int open) {
        Node node = add(CHOICE);
        tape.advance();
        // The : is what the bound refuses, not the ID before it, which could stand alone.
        if (open >= MOST_OPEN) {
            refuse();
        }
        tape.advance();
        value(open + 1);
        node.parts = 1;
        close(node);
    }

    private void negative() {
        Node node = add(NUMBER);
        tape.advance();
        demand(NUMBER);
        node.value = -tape.here.value;
        tape.advance();
    }

    private void braces(int open) {
        if (open >= MOST_OPEN) {
            refuse();
        }
        Node whole = add(EMPTY);
        tape.advance();
        whole.kind = formOfBraces();
        if (whole.kind == NUMBERS) {
            numbers(whole);
        }
        boolean more = whole.kind == VALUES || whole.kind == NAMED;
        for (int i = 0; i < MOST_BYTES && more; i++) {
            Node id = whole.kind == NAMED ? idWithValue() : null;
            value(open + 1);
            if (id != null) {
                close(id);
            }
            whole.parts++;
            more = tape.here.kind == COMMA;
            if (more) {
                tape.advance();
            }
        }
        demand(CLOSE);
        tape.advance();
        close(whole);
    }

    private int formOfBraces() {
        int first = tape.here.kind;
        int second = tape.ahead.kind;
        if (first == CLOSE) {
            return EMPTY;
        }
        if (first == NUMBER && second == NUMBER) {
            return NUMBERS;
        }
        return first == ID && beginsValue(second) ? NAMED : VALUES;
    }

    private void numbers(Node whole) {
        for (int i = 0; i < MOST_BYTES && tape.here.kind == NUMBER; i++) {
            add(NUMBER);
            tape.advance();
            whole.parts++;
        }
    }

    private Node idWithValue() {
        demand(ID);
        Node id = add(ID);
        id.parts = 1;
        tape.advance();
        return id;
    }

    private static boolean beginsValue(int kind) {
        return kind >= TRUE && kind <= STRING || kind == OPEN || kind == MINUS;
    }

    private Node add(int kind) {
        Node node = new Node(kind, tape.here);
        nodes.add(node);
        close(node);
        return node;
    }

    private void close(Node node) {
        node.after = nodes.size();
    }

    private void demand(int kind) {
        if (tape.here.kind != kind) {
            refuse();
        }
    }

    /** Ends the read: SYNTAX can't go on with the token here. */
    private void refuse() {
        place = tape.here.begin;
        nodes.clear();
        tape.length = 0;
        throw new UnsupportedOperationException("the tape is no value");
    }

    private static final class Node {
        int kind;
        final int begin;
        // Where the letters of an ID, or the digits or bytes of BITS, HEX and STRING are kept.
        final int first;
        final int letters;
        long value;
        int parts;
        // The number of the first node behind this one and all that is in it.
        int after;

        Node(int kind, Token token) {
            this.kind = kind;
            begin = token.begin;
            first = token.first;
            letters = token.letters;
            value = token.value;
        }

        int units() {
            return kind == BITS || kind == HEX || kind == STRING ? letters : 0;
        }

        boolean hasId() {
            return kind == ID || kind == CHOICE;
        }
    }

    private static final class Token {
        int kind;
        int begin;
        int end;
        int first;
        int letters;
        long value;

        Token() {
            kind = END;
        }

        void accept(int acceptedKind, int acceptedEnd) {
            kind = acceptedKind;
            end = acceptedEnd;
        }
    }

    /** The bytes, and the tokens in them: the one here, and the one ahead, which tells the forms of { and ID apart. */
    private static final class Tape {
        private final byte[] bytes;
        // What the tokens of the latest read say. The nodes need it when the bytes have long been fed anew.
        private final byte[] letters;
        private int kept;
        int length;
        Token here;
        Token ahead;

        Tape() {
            bytes = new byte[MOST_BYTES];
            letters = new byte[MOST_BYTES];
            here = new Token();
            ahead = new Token();
        }

        void put(int word) {
            for (int shift = 24; shift >= 0; shift -= 8) {
                if (length < bytes.length) {
                    bytes[length] = (byte) (word >>> shift);
                    length++;
                }
            }
        }

        int letter(int i) {
            return i >= 0 && i < letters.length ? letters[i] : 0;
        }

        void start() {
            kept = 0;
            ahead.end = 0;
            advance();
            advance();
        }

        void advance() {
            Token past = here;
            here = ahead;
            ahead = past;
            ahead.begin = blanksEnd(here.end);
            ahead.first = kept;
            ahead.value = 0;
            // A token that is not accepted below stays so, with nothing behind it: it is never passed.
            ahead.accept(STRAY, length);
            int c = at(ahead.begin);
            if (c < 0) {
                ahead.accept(END, length);
            } else if (isLetter(c)) {
                word(ahead);
            } else if (isDigit(c)) {
                numeral(ahead);
            } else if (c == '"') {
                string(ahead);
            } else if (c == '\'') {
                digits(ahead);
            } else {
                sign(ahead, c);
            }
            ahead.letters = kept - ahead.first;
        }

        private void word(Token token) {
            int p = token.begin;
            while (p < length) {
                int c = at(p);
                boolean joins = c == '-' && isLetterOrDigit(at(p + 1));
                if (!joins && !isLetterOrDigit(c)) {
                    break;
                }
                keep(c);
                p++;
            }
            if (isSmallLetter(at(token.begin))) {
                token.accept(ID, p);
            } else if (spells(token, "TRUE")) {
                token.accept(TRUE, p);
            } else if (spells(token, "FALSE")) {
                token.accept(FALSE, p);
            } else if (spells(token, "NULL")) {
                token.accept(NULL, p);
            }
        }

        private boolean spells(Token token, String text) {
            boolean alike = kept - token.first == text.length();
            for (int i = 0; i < text.length() && alike; i++) {
                alike = letter(token.first + i) == text.charAt(i);
            }
            return alike;
        }

        private void numeral(Token token) {
            int p = token.begin;
            long value = 0;
            boolean fits = true;
            while (p < length && isDigit(at(p))) {
                int digit = at(p) - '0';
                fits = fits && value <= (Long.MAX_VALUE - digit) / 10;
                value = fits ? value * 10 + digit : value;
                p++;
            }
            boolean idleZero = at(token.begin) == '0' && p > token.begin + 1;
            if (fits && !idleZero) {
                token.value = value;
                token.accept(NUMBER, p);
            }
        }

        private void string(Token token) {
            int p = token.begin + 1;
            while (p < length) {
                int c = at(p);
                if (c < 1 || c > 127) {
                    return;
                }
                if (c == '"') {
                    p++;
                    if (at(p) != '"') {
                        token.accept(STRING, p);
                        return;
                    }
                }
                keep(c);
                p++;
            }
        }

        private void digits(Token token) {
            boolean bitsOnly = true;
            int p = blanksEnd(token.begin + 1);
            for (int i = 0; i < MOST_BYTES && isHexDigit(at(p)); i++) {
                bitsOnly = bitsOnly && at(p) <= '1';
                keep(at(p));
                p = blanksEnd(p + 1);
            }
            if (at(p) != '\'') {
                return;
            }
            int mark = at(p + 1);
            if (mark == 'H') {
                token.accept(HEX, p + 2);
            } else if (mark == 'B' && bitsOnly) {
                token.accept(BITS, p + 2);
            }
        }

        private void sign(Token token, int c) {
            int behind = token.begin + 1;
            if (c == '{') {
                token.accept(OPEN, behind);
            } else if (c == '}') {
                token.accept(CLOSE, behind);
            } else if (c == ',') {
                token.accept(COMMA, behind);
            } else if (c == '-') {
                token.accept(MINUS, behind);
            } else if (c == ':' && !(at(behind) == ':' && at(behind + 1) == '=')) {
                token.accept(COLON, behind);
            }
        }

        /** The first place, not before this one, that is in no blank; the length of the tape if all are. */
        private int blanksEnd(int from) {
            boolean inComment = false;
            int p = from;
            while (p < length) {
                int c = at(p);
                if (c == '-' && at(p + 1) == '-') {
                    inComment = !inComment;
                    p += 2;
                } else if (inComment || isBlank(c)) {
                    inComment = inComment && c != 10;
                    p++;
                } else {
                    break;
                }
            }
            return p;
        }

        private void keep(int c) {
            if (kept < letters.length) {
                letters[kept] = (byte) c;
                kept++;
            }
        }

        /** The byte at p, from 0 to 255, or -1 where the tape has none. */
        private int at(int p) {
            return p >= 0 && p < length && p < bytes.length ? bytes[p] & 255 : -1;
        }

        private static boolean isBlank(int c) {
            return c == 9 || c == 10 || c == 13 || c == 32;
        }

        private static boolean isSmallLetter(int c) {
            return c >= 'a' && c <= 'z';
        }

        private static boolean isLetter(int c) {
            return c >= 'a' && c <= 'z' || c >= 'A' && c <= 'Z';
        }

        private static boolean isDigit(int c) {
            return c >= '0' && c <= '9';
        }

        private static boolean isLetterOrDigit(int c) {
            return isLetter(c) || isDigit(c);
        }

        private static boolean isHexDigit(int c) {
            return isDigit(c) || c >= 'A' && c <= 'F';
        }
    }
}
