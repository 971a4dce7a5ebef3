/**
 * The sentences of the document's promises that name a boundary, in its order, each with a test of its own: what is out
 * of range, what there is not, and what a refused call leaves as it was.
 */
public final class PromisesBoundaryTest {
    private static final String ILLEGAL = "IllegalArgumentException";
    private static final String UNSUPPORTED = "UnsupportedOperationException";
    private static final String NONE = "NoSuchElementException";
    private static final String BOUNDS = "IndexOutOfBoundsException";
    private static final int LOWEST = Integer.MIN_VALUE;
    private static final int HIGHEST = Integer.MAX_VALUE;
    private static final int FULL = 4096;
    private static final String[] WITHOUT_UNITS = {
        "TRUE", "FALSE", "NULL", "123", "-5", "abc", "abc:\"d\"", "{}", "{\"d\"}", "{abc \"d\"}", "{1 2}",
    };

    private static final Probe probe = new Probe();

    public static void main(String[] args) {
        refusals();
        promises();
        probe.finish();
    }

    private static void refusals() {
        rangeComesFirst();
        refusedCallsChangeNothing();
        brokenReadLeavesNothing();
    }

    /** "What is thrown, in this order: IllegalArgumentException: a number out of range; then as the call says." */
    private static void rangeComesFirst() {
        NotationReader x = Probe.read("{TRUE, a}");
        for (int n : new int[] {LOWEST, -1, 3, HIGHEST}) {
            probe.due("node " + n + " and what", ILLEGAL, () -> x.node(n, 4));
            probe.due("part of " + n, ILLEGAL, () -> x.part(n, 2));
            probe.due("part of " + n, ILLEGAL, () -> x.part(n, HIGHEST));
            probe.due("number of " + n, ILLEGAL, () -> x.number(n));
            probe.due("unit of " + n, ILLEGAL, () -> x.unit(n, 0));
            probe.due("unit of " + n, ILLEGAL, () -> x.unit(n, HIGHEST));
            probe.due("same of no ID and " + n, ILLEGAL, () -> x.same(1, n));
            probe.due("same of " + n + " and no ID", ILLEGAL, () -> x.same(n, 1));
            probe.due("same of an ID and " + n, ILLEGAL, () -> x.same(2, n));
            probe.due("same of " + n + " and an ID", ILLEGAL, () -> x.same(n, 2));
        }
        probe.due("what of a node", ILLEGAL, () -> x.node(0, 4));
        probe.due("in range, no part", NONE, () -> x.part(1, 0));
        probe.due("in range, no number", UNSUPPORTED, () -> x.number(1));
        probe.due("in range, no unit", NONE, () -> x.unit(1, 0));
        probe.due("in range, no ID", UNSUPPORTED, () -> x.same(1, 2));
    }

    /** "A call that throws changes nothing, but as said." */
    private static void refusedCallsChangeNothing() {
        // Behind a broken read, behind a VALUE, and on a new object; the tape nearly full, so that feed is refused, too.
        for (String before : new String[] {null, "{1 2", "{a \"bc\", d 'F'H}"}) {
            NotationReader x = before == null ? new NotationReader() : Probe.read(before);
            NotationReader untouched = before == null ? new NotationReader() : Probe.read(before);
            String tape = " ".repeat(4070) + "{x:1}  ";
            Probe.feed(x, tape);
            Probe.feed(untouched, tape);
            refused(x);
            probe.due("state behind " + before, state(untouched), () -> state(x));
            probe.due("read behind " + before, untouched.read(), x::read);
            probe.due("nodes behind " + before, state(untouched), () -> state(x));
        }
    }

    private static String state(NotationReader x) {
        return x.count(0) + " " + x.count(1) + " " + x.place() + " " + Probe.layout(x);
    }

    private static void refused(NotationReader x) {
        int nodes = x.count(1);
        probe.due("feed", BOUNDS, () -> x.feed(-1, -1, -1, -1, -1));
        for (int n : new int[] {LOWEST, -1, 4078, HIGHEST}) {
            probe.due("end(" + n + ")", ILLEGAL, () -> x.end(n));
            probe.due("count(" + n + ")", ILLEGAL, () -> x.count(n));
            probe.due("node(" + n + ", 0)", ILLEGAL, () -> x.node(n, 0));
            probe.due("node(0, " + n + ")", ILLEGAL, () -> x.node(0, n));
            probe.due("part(" + n + ", 0)", ILLEGAL, () -> x.part(n, 0));
            probe.due("part(0, " + n + ")", nodes == 0 ? ILLEGAL : NONE, () -> x.part(0, n));
            probe.due("number(" + n + ")", ILLEGAL, () -> x.number(n));
            probe.due("unit(" + n + ", 0)", ILLEGAL, () -> x.unit(n, 0));
            probe.due("unit(0, " + n + ")", nodes == 0 ? ILLEGAL : NONE, () -> x.unit(0, n));
            probe.due("same(" + n + ", 0)", ILLEGAL, () -> x.same(n, 0));
            probe.due("same(0, " + n + ")", ILLEGAL, () -> x.same(0, n));
        }
        probe.due("number(0)", nodes == 0 ? ILLEGAL : UNSUPPORTED, () -> x.number(0));
        probe.due("same(0, 0)", nodes == 0 ? ILLEGAL : UNSUPPORTED, () -> x.same(0, 0));
    }

    /** "SYNTAX is broken: UnsupportedOperationException, and there are no NODES." */
    private static void brokenReadLeavesNothing() {
        String[] broken = {"", "@", "{a 1, b", "{a {1 2}, \"", "{".repeat(61), "a:".repeat(61), "{1, 2} 3", "00", "'1"};
        for (String text : broken) {
            NotationReader x = Probe.read("{a, b : 2}");
            Probe.feed(x, text);
            probe.due("read <" + text + ">", UNSUPPORTED, x::read);
            probe.due("nodes <" + text + ">", 0, () -> x.count(1));
            probe.due("tape <" + text + ">", 0, () -> x.count(0));
            probe.due("node <" + text + ">", ILLEGAL, () -> x.node(0, 0));
            probe.due("part <" + text + ">", ILLEGAL, () -> x.part(0, 0));
            probe.due("number <" + text + ">", ILLEGAL, () -> x.number(0));
            probe.due("unit <" + text + ">", ILLEGAL, () -> x.unit(0, 0));
            probe.due("same <" + text + ">", ILLEGAL, () -> x.same(0, 0));
            Probe.feed(x, "{c : 3}");
            probe.due("read behind <" + text + ">", 3, x::read);
            probe.due("place behind <" + text + ">", -1, x::place);
        }
    }

    private static void promises() {
        newObject();
        feedIsFull();
        feedOrder();
        endKeeps();
        readEmpties();
        placeOfLatest();
        nodeKinds();
        nodeRanges();
        nodeCounts();
        partRange();
        numberKinds();
        unitRange();
        unitsOfOthers();
        sameNames();
        countRange();
    }

    /** "THE TAPE is empty, there are no NODES." */
    private static void newObject() {
        NotationReader x = new NotationReader();
        probe.due("new: tape", 0, () -> x.count(0));
        probe.due("new: nodes", 0, () -> x.count(1));
        probe.due("new: place", -1, x::place);
        probe.due("new: end(0)", 0, () -> x.end(0));
        probe.due("new: end(1)", ILLEGAL, () -> x.end(1));
        probe.due("new: node", ILLEGAL, () -> x.node(0, 0));
        probe.due("new: part", ILLEGAL, () -> x.part(0, 0));
        probe.due("new: number", ILLEGAL, () -> x.number(0));
        probe.due("new: unit", ILLEGAL, () -> x.unit(0, 0));
        probe.due("new: same", ILLEGAL, () -> x.same(0, 0));
        NotationReader other = Probe.read("{1, 2}");
        Probe.feed(other, "3");
        probe.due("another object: tape", 0, () -> x.count(0));
        probe.due("another object: nodes", 0, () -> x.count(1));
        probe.due("new: read", UNSUPPORTED, x::read);
        probe.due("new: read's place", 0, x::place);
    }

    /** "it would have more than 4096: IndexOutOfBoundsException. Answers its length." */
    private static void feedIsFull() {
        for (int length = 4070; length <= FULL; length++) {
            int before = length;
            NotationReader x = Probe.fed(" ".repeat(before));
            boolean fits = before + 20 <= FULL;
            probe.due("feed at " + before, fits ? before + 20 : BOUNDS, () -> x.feed(0, 0, 0, 0, 0));
            probe.due("length behind a feed at " + before, fits ? before + 20 : before, () -> x.count(0));
        }
        NotationReader y = Probe.fed(" ".repeat(FULL));
        probe.due("full", BOUNDS, () -> y.feed(0, 0, 0, 0, 0));
        y.end(0);
        probe.due("full no more", 20, () -> y.feed(0, 0, 0, 0, 0));
        NotationReader z = Probe.read(" ".repeat(FULL));
        probe.due("read empties a full one", 20, () -> z.feed(0, 0, 0, 0, 0));
    }

    /** "The 20 bytes of five ints, the highest of each first" */
    private static void feedOrder() {
        NotationReader x = new NotationReader();
        x.feed(0x22010203, 0x7F7E7D7C, 0x04050607, 0x08090A0B, 0x0C0D0E22);
        probe.due("bytes in order", 1, x::read);
        int[] due = {1, 2, 3, 127, 126, 125, 124, 4, 5, 6, 7, 8, 9, 10, 11, 12, 13, 14};
        for (int i = 0; i < due.length; i++) {
            int at = i;
            probe.due("byte " + i, due[i], () -> x.unit(0, at));
        }
        for (int word : new int[] {-1, LOWEST, HIGHEST, 0x80808080, 0}) {
            NotationReader y = new NotationReader();
            y.feed(0x20202020, word, word, word, word);
            probe.due("no token in " + word, UNSUPPORTED, y::read);
            probe.due("place of " + word, 4, y::place);
        }
    }

    /** "The TAPE keeps its first n bytes, n 0 .. its length. Answers n." */
    private static void endKeeps() {
        for (int n = 0; n <= 6; n++) {
            int kept = n;
            NotationReader x = Probe.fed("123456");
            probe.due("below of " + n, ILLEGAL, () -> x.end(-1));
            probe.due("over of " + n, ILLEGAL, () -> x.end(7));
            probe.due("end(" + n + ")", kept, () -> x.end(kept));
            probe.due("length " + n, kept, () -> x.count(0));
            probe.due("cut at " + n, ILLEGAL, () -> x.end(kept + 1));
            Probe.feed(x, "9");
            probe.due("read of " + n, 1, x::read);
            probe.due("kept " + n, Long.parseLong("123456".substring(0, kept) + "9"), () -> x.number(0));
        }
        NotationReader full = Probe.fed(" ".repeat(FULL));
        probe.due("over full", ILLEGAL, () -> full.end(FULL + 1));
        probe.due("full", FULL, () -> full.end(FULL));
        probe.due("all but one", FULL - 1, () -> full.end(FULL - 1));
        probe.due("none", 0, () -> full.end(0));
        probe.due("none of none", 0, () -> full.end(0));
    }

    /** "The TAPE is a VALUE, and empty then. .. Answers how many NODES." */
    private static void readEmpties() {
        NotationReader x = Probe.fed("{1, 2}");
        probe.due("read", 3, x::read);
        probe.due("empty then", 0, () -> x.count(0));
        probe.due("nothing to keep then", ILLEGAL, () -> x.end(1));
        probe.due("nodes stay", 3, () -> x.count(1));
        probe.due("an empty tape is no VALUE", UNSUPPORTED, x::read);
        probe.due("nor has it NODES", 0, () -> x.count(1));
        Probe.feed(x, "{1, {}, 3}");
        probe.due("read again", 4, x::read);
        Probe.feed(x, "4");
        probe.due("fewer", 1, x::read);
        probe.due("the fewer alone", ILLEGAL, () -> x.node(1, 0));
    }

    /** "The PLACE of the latest read, -1 if SYNTAX was not broken, or before." */
    private static void placeOfLatest() {
        NotationReader x = new NotationReader();
        probe.due("before", -1, x::place);
        Probe.feed(x, "1 1");
        x.end(3);
        probe.due("before, with a tape", -1, x::place);
        Probe.outcome(x::read);
        probe.due("broken", 2, x::place);
        probe.due("asked again", 2, x::place);
        Probe.feed(x, "1");
        probe.due("fed since", 2, x::place);
        x.end(0);
        probe.due("cut since", 2, x::place);
        Probe.outcome(x::read);
        probe.due("broken at 0", 0, x::place);
        Probe.feed(x, "1");
        x.read();
        probe.due("not broken", -1, x::place);
        Probe.outcome(() -> x.node(9, 9));
        Probe.outcome(() -> x.end(9));
        probe.due("refused since", -1, x::place);
    }

    /** "0 what it is: 1 TRUE, .. 13 { NUMBER NUMBER .. }" */
    private static void nodeKinds() {
        String[] values = {"TRUE", "FALSE", "NULL", "1", "a", "'1'B", "'1'H", "\"1\"", "a:1", "{}", "{1}", "{a 1}", "{1 2}"};
        for (int i = 0; i < values.length; i++) {
            String value = values[i];
            probe.due("what " + value + " is", i + 1, () -> Probe.read(value).node(0, 0));
        }
        probe.due("what -1 is", 4, () -> Probe.read("-1").node(0, 0));
        probe.due("what an ID with its VALUE is", 5, () -> Probe.read("{a 1}").node(1, 0));
        probe.due("what a NUMBER of many is", 4, () -> Probe.read("{1 2}").node(2, 0));
    }

    /** "what 0 .. 3", and n is a NODE */
    private static void nodeRanges() {
        NotationReader x = Probe.read("{1, 2}");
        for (int what : new int[] {LOWEST, -1, 4, 5, HIGHEST}) {
            probe.due("what " + what, ILLEGAL, () -> x.node(0, what));
        }
        for (int what = 0; what <= 3; what++) {
            int asked = what;
            probe.due("first, what " + what, new int[] {11, 0, 2, 0}[what], () -> x.node(0, asked));
            probe.due("last, what " + what, new int[] {4, 4, 0, 0}[what], () -> x.node(2, asked));
            for (int n : new int[] {LOWEST, -1, 3, HIGHEST}) {
                probe.due("n " + n, ILLEGAL, () -> x.node(n, asked));
            }
        }
    }

    /** "how many digits BITS and HEX have, without blanks, and bytes STRING says (else 0)" */
    private static void nodeCounts() {
        String[] values = {"''B", "' 'B", "'0 1'B", "''H", "'\n'H", "'F E\tD'H", "\"\"", "\" \"", "\"\"\"\"", "\"--a\""};
        int[] due = {0, 0, 2, 0, 0, 3, 0, 1, 1, 3};
        for (int i = 0; i < values.length; i++) {
            String value = values[i];
            probe.due("how many of " + value, due[i], () -> Probe.read(value).node(0, 3));
            probe.due("NODES in " + value, 0, () -> Probe.read(value).node(0, 2));
        }
        for (String value : WITHOUT_UNITS) {
            probe.due("none of " + value, 0, () -> Probe.read(value).node(0, 3));
        }
        probe.due("an ID with its VALUE has none", 0, () -> Probe.read("{abc \"d\"}").node(1, 3));
        probe.due("but one NODE in it", 1, () -> Probe.read("{abc \"d\"}").node(1, 2));
        probe.due("of ID : VALUE one", 1, () -> Probe.read("a:{1,2,3}").node(0, 2));
    }

    /** "NODE number k, from 0, of those just in NODE n; there is none: NoSuchElementException." */
    private static void partRange() {
        // 0 {, 1 {, 2 1, 3 2, 4 a:, 5 {, 6 3, 7 {}, 8 last
        NotationReader x = Probe.read("{{1,2},a:{3},{},last}");
        int[][] parts = {{1, 4, 7, 8}, {2, 3}, {}, {}, {5}, {6}, {}, {}, {}};
        for (int n = 0; n < parts.length; n++) {
            int whole = n;
            int many = parts[n].length;
            for (int k = 0; k < many; k++) {
                int at = k;
                probe.due("part " + k + " of " + n, parts[n][k], () -> x.part(whole, at));
            }
            for (int k : new int[] {LOWEST, -1, many, many + 1, HIGHEST}) {
                probe.due("no part " + k + " of " + n, NONE, () -> x.part(whole, k));
            }
        }
    }

    /** "What NODE n says if it is a NUMBER; else UnsupportedOperationException." */
    private static void numberKinds() {
        probe.due("0", 0L, () -> Probe.read("0").number(0));
        probe.due("-0", 0L, () -> Probe.read("-0").number(0));
        probe.due("greatest", Long.MAX_VALUE, () -> Probe.read("9223372036854775807").number(0));
        probe.due("smallest", -Long.MAX_VALUE, () -> Probe.read("-9223372036854775807").number(0));
        probe.due("beyond an int", 4294967296L, () -> Probe.read("4294967296").number(0));
        probe.due("beyond an int", 2147483648L, () -> Probe.read("{1 2147483648}").number(2));
        String[] others = {"TRUE", "FALSE", "NULL", "a", "'1'B", "'1'H", "\"1\"", "a:1", "{}", "{1}", "{a 1}", "{1 2}"};
        for (String other : others) {
            probe.due(other + " is no number", UNSUPPORTED, () -> Probe.read(other).number(0));
        }
        probe.due("an ID with a number is none", UNSUPPORTED, () -> Probe.read("{a 1}").number(1));
        probe.due("but has one", 1L, () -> Probe.read("{a 1}").number(2));
    }

    /** "Digit, or byte, i of NODE n .. there is none .. NoSuchElementException" */
    private static void unitRange() {
        String[] values = {"'01'B", "' 0\n1 'B", "'9AF0'H", "'9 A F 0'H", "\"x\"\"y\"", "''B", "''H", "\"\"", "\"\u0001\u007f\""};
        String[] says = {"01", "01", "9AF0", "9AF0", "x\"y", "", "", "", "\u0001\u007f"};
        for (int v = 0; v < values.length; v++) {
            NotationReader x = Probe.read(values[v]);
            int many = says[v].length();
            for (int i = 0; i < many; i++) {
                int at = i;
                probe.due("unit " + i + " of " + values[v], (int) says[v].charAt(i), () -> x.unit(0, at));
            }
            for (int i : new int[] {LOWEST, -1, many, many + 1, HIGHEST}) {
                probe.due("no unit " + i + " of " + values[v], NONE, () -> x.unit(0, i));
            }
        }
        // What stands beside it on the tape is no unit of it.
        NotationReader y = Probe.read("{'0'B, '1'B, \"2\"}");
        probe.due("first", '0' + 0, () -> y.unit(1, 0));
        probe.due("behind the first", NONE, () -> y.unit(1, 1));
        probe.due("before the second", NONE, () -> y.unit(2, -1));
        probe.due("third", '2' + 0, () -> y.unit(3, 0));
    }

    /** "(of other NODES, too): NoSuchElementException" */
    private static void unitsOfOthers() {
        for (String value : WITHOUT_UNITS) {
            for (int i : new int[] {LOWEST, -1, 0, 1, HIGHEST}) {
                probe.due("unit " + i + " of " + value, NONE, () -> Probe.read(value).unit(0, i));
            }
        }
        probe.due("an ID with its VALUE", NONE, () -> Probe.read("{abc \"d\"}").unit(1, 0));
    }

    /** "NODES a and b, each an ID (alone, with a VALUE, or before a :): whether these are the same; else .." */
    private static void sameNames() {
        String[][] pairs = {
            {"a", "b"}, {"a", "aa"}, {"ab", "a"}, {"a", "aA"}, {"aa", "aA"}, {"a-b", "ab"}, {"a1", "a2"}, {"a-b", "a-c"},
        };
        for (String[] pair : pairs) {
            NotationReader x = Probe.read("{" + pair[0] + "," + pair[1] + "," + pair[0] + ":" + pair[1] + "}");
            probe.due(pair[0] + " and " + pair[1], false, () -> x.same(1, 2));
            probe.due(pair[1] + " and " + pair[0], false, () -> x.same(2, 1));
            probe.due(pair[0] + " and itself", true, () -> x.same(1, 1));
            probe.due(pair[0] + " before a :", true, () -> x.same(1, 3));
            probe.due(pair[1] + " behind a :", true, () -> x.same(4, 2));
            probe.due(pair[0] + " before, " + pair[1] + " behind", false, () -> x.same(3, 4));
        }
        NotationReader y = Probe.read("{ab ab:ab, ab TRUE}");
        for (int a : new int[] {1, 2, 3, 4}) {
            for (int b : new int[] {1, 2, 3, 4}) {
                probe.due("all the same", true, () -> y.same(a, b));
            }
            probe.due("{ is no ID", UNSUPPORTED, () -> y.same(0, a));
            probe.due("TRUE is no ID", UNSUPPORTED, () -> y.same(a, 5));
        }
        for (String other : new String[] {"TRUE", "FALSE", "NULL", "1", "'1'B", "'1'H", "\"a\"", "{}", "{a}", "{a 1}", "{1 2}"}) {
            probe.due(other + " is no ID", UNSUPPORTED, () -> Probe.read(other).same(0, 0));
        }
    }

    /** "0 the length of THE TAPE, 1 NODES. what 0, 1." */
    private static void countRange() {
        NotationReader x = Probe.read("{1, 2}");
        Probe.feed(x, "12345");
        probe.due("0", 5, () -> x.count(0));
        probe.due("1", 3, () -> x.count(1));
        for (int what : new int[] {LOWEST, -1, 2, 3, HIGHEST}) {
            probe.due("what " + what, ILLEGAL, () -> x.count(what));
        }
    }
}
