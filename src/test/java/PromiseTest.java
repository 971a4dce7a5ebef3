/** Each promise of the document by its number: ordinary inputs, the edges it names, and wrong inputs. */
public final class PromiseTest {
    private static final String ILLEGAL = "IllegalArgumentException";
    private static final String UNSUPPORTED = "UnsupportedOperationException";
    private static final String NONE = "NoSuchElementException";
    private static final String BOUNDS = "IndexOutOfBoundsException";

    private static final Probe probe = new Probe();

    public static void main(String[] args) {
        promise1();
        promise2();
        promise3();
        promise4();
        promise5();
        promise6();
        promise7();
        promise8();
        promise9();
        promise10();
        promise11();
        probe.finish();
    }

    private static void promise1() {
        NotationReader x = new NotationReader();
        probe.due("1 length", 0, () -> x.count(0));
        probe.due("1 nodes", 0, () -> x.count(1));
        probe.due("1 place", -1, x::place);
        probe.due("1 node 0", ILLEGAL, () -> x.node(0, 0));
        probe.due("1 empty tape is no value", UNSUPPORTED, x::read);
        probe.due("1 broken at its length", 0, x::place);
    }

    private static void promise2() {
        NotationReader x = new NotationReader();
        probe.due("2 first", 20, () -> x.feed(0x22414243, 0x44454647, 0x48494A4B, 0x4C4D4E4F, 0x50515222));
        probe.due("2 read", 1, x::read);
        for (int i = 0; i < 18; i++) {
            int at = i;
            probe.due("2 byte " + i, 'A' + i, () -> x.unit(0, at));
        }
        probe.due("2 highest bit", 20, () -> x.feed(0x80000000, -1, 0, 0, 0));
        probe.due("2 highest bit begins no token", UNSUPPORTED, x::read);
        for (int i = 1; i <= 204; i++) {
            int length = 20 * i;
            probe.due("2 length", length, () -> x.feed(0x20202020, 0x20202020, 0x20202020, 0x20202020, 0x20202020));
        }
        probe.due("2 one over", BOUNDS, () -> x.feed(0, 0, 0, 0, 0));
        probe.due("2 nothing changed", 4080, () -> x.count(0));
        x.end(4077);
        probe.due("2 one byte over", BOUNDS, () -> x.feed(0, 0, 0, 0, 0));
        x.end(4076);
        probe.due("2 full", 4096, () -> x.feed(0x54525545, 0x20202020, 0x20202020, 0x20202020, 0x20202020));
        probe.due("2 over full", BOUNDS, () -> x.feed(0, 0, 0, 0, 0));
        probe.due("2 full tape read", 1, x::read);
        probe.due("2 full tape's node", 4076, () -> x.node(0, 1));
        feedKeepsNodes();
    }

    private static void feedKeepsNodes() {
        NotationReader x = Probe.read("{abc \"def\"}");
        String before = Probe.layout(x);
        Probe.feed(x, "XXXXXXXXXXXXXXXXXXXXXXXX");
        probe.due("2 feed leaves the nodes", before, () -> Probe.layout(x));
        probe.due("2 feed leaves the names", true, () -> x.same(1, 1));
        x.end(3);
        probe.due("3 end leaves the nodes", before, () -> Probe.layout(x));
    }

    private static void promise3() {
        NotationReader x = Probe.fed("12345 789 XXXXXXXXXXXXXXXX");
        probe.due("3 over", ILLEGAL, () -> x.end(27));
        probe.due("3 below", ILLEGAL, () -> x.end(-1));
        probe.due("3 lowest int", ILLEGAL, () -> x.end(Integer.MIN_VALUE));
        probe.due("3 highest int", ILLEGAL, () -> x.end(Integer.MAX_VALUE));
        probe.due("3 nothing changed", 26, () -> x.count(0));
        probe.due("3 whole", 26, () -> x.end(26));
        probe.due("3 shorter", 4, () -> x.end(4));
        probe.due("3 length", 4, () -> x.count(0));
        probe.due("3 what was cut is gone", ILLEGAL, () -> x.end(5));
        Probe.feed(x, "67");
        probe.due("3 read", 1, x::read);
        probe.due("3 first bytes are kept", 123467L, () -> x.number(0));
        probe.due("3 zero of an empty tape", 0, () -> x.end(0));
        probe.due("3 one of an empty tape", ILLEGAL, () -> x.end(1));
    }

    private static void promise4() {
        NotationReader x = Probe.fed("{a 1, b {TRUE, c : 2}}");
        probe.due("4 nodes", 8, x::read);
        probe.due("4 tape is empty then", 0, () -> x.count(0));
        probe.due("4 nodes are there", 8, () -> x.count(1));
        Probe.feed(x, "NULL");
        probe.due("4 another value", 1, x::read);
        probe.due("4 its nodes alone", 1, () -> x.count(1));
        Probe.feed(x, "{1, 2");
        probe.due("4 broken", UNSUPPORTED, x::read);
        probe.due("4 broken: no nodes", 0, () -> x.count(1));
        probe.due("4 broken: tape is empty", 0, () -> x.count(0));
        probe.due("4 again", UNSUPPORTED, x::read);
        Probe.feed(x, "{1, 2}");
        probe.due("4 mended", 3, x::read);
        probe.due("4 all of the tape", UNSUPPORTED, () -> Probe.fed("1 2").read());
    }

    private static void promise5() {
        NotationReader x = new NotationReader();
        probe.due("5 before", -1, x::place);
        Probe.feed(x, "{1, 2 3}");
        probe.due("5 not read yet", -1, x::place);
        probe.due("5 read", UNSUPPORTED, x::read);
        probe.due("5 broken", 6, x::place);
        Probe.feed(x, "17");
        probe.due("5 still the latest read", 6, x::place);
        probe.due("5 a value", 1, x::read);
        probe.due("5 not broken", -1, x::place);
        probe.due("5 empty", UNSUPPORTED, x::read);
        probe.due("5 empty", 0, x::place);
    }

    private static void promise6() {
        NotationReader x = Probe.read(" {{TRUE,FALSE,NULL,-7,id,'0 1'B,'0 A'H,\"a\"\"b\",c : {},{ }},{d 1},{1 2 3}}");
        int[][] due = {
            {11, 1, 3, 0}, {11, 2, 10, 0}, {1, 3, 0, 0}, {2, 8, 0, 0}, {3, 14, 0, 0}, {4, 19, 0, 0}, {5, 22, 0, 0},
            {6, 25, 0, 2}, {7, 32, 0, 2}, {8, 39, 0, 3}, {9, 46, 1, 0}, {10, 50, 0, 0}, {10, 53, 0, 0},
            {12, 58, 1, 0}, {5, 59, 1, 0}, {4, 61, 0, 0}, {13, 64, 3, 0}, {4, 65, 0, 0}, {4, 67, 0, 0}, {4, 69, 0, 0},
        };
        probe.due("6 nodes", due.length, () -> x.count(1));
        for (int n = 0; n < due.length; n++) {
            for (int what = 0; what < 4; what++) {
                int node = n;
                int asked = what;
                probe.due("6 node(" + n + ", " + what + ")", due[n][what], () -> x.node(node, asked));
            }
        }
        probe.due("6 n over", ILLEGAL, () -> x.node(due.length, 0));
        probe.due("6 n below", ILLEGAL, () -> x.node(-1, 0));
        probe.due("6 what over", ILLEGAL, () -> x.node(0, 4));
        probe.due("6 what below", ILLEGAL, () -> x.node(0, -1));
        probe.due("6 highest ints", ILLEGAL, () -> x.node(Integer.MAX_VALUE, Integer.MAX_VALUE));
        probe.due("6 lowest ints", ILLEGAL, () -> x.node(Integer.MIN_VALUE, Integer.MIN_VALUE));
        probe.due("6 empty texts", "11@0[1,2,3] 6@1 7@6 8@11", () -> Probe.layout(Probe.read("{''B ,''H ,\"\"}")));
    }

    private static void promise7() {
        NotationReader x = Probe.read("{a {1, {2, 3}, 4}, b : 5}");
        probe.due("7 not a value", UNSUPPORTED, () -> Probe.fed("{a {1, {2, 3}, 4}, b : 5}").read());
        probe.due("7 no nodes", ILLEGAL, () -> x.part(0, 0));
        NotationReader y = Probe.read("{a {1, {2, 3}, 4}, b c : 5, d {6 7}}");
        int[][] parts = {{1, 8, 11}, {2}, {3, 4, 7}, {}, {5, 6}, {}, {}, {}, {9}, {10}, {}, {12}, {13, 14}, {}, {}};
        probe.due("7 nodes", parts.length, () -> y.count(1));
        for (int n = 0; n < parts.length; n++) {
            int node = n;
            int many = parts[n].length;
            for (int k = 0; k < many; k++) {
                int at = k;
                probe.due("7 part(" + n + ", " + k + ")", parts[n][k], () -> y.part(node, at));
            }
            probe.due("7 part over of " + n, NONE, () -> y.part(node, many));
            probe.due("7 part below of " + n, NONE, () -> y.part(node, -1));
        }
        probe.due("7 highest k", NONE, () -> y.part(0, Integer.MAX_VALUE));
        probe.due("7 n over", ILLEGAL, () -> y.part(parts.length, 0));
        probe.due("7 n below comes first", ILLEGAL, () -> y.part(-1, -1));
    }

    private static void promise8() {
        NotationReader x = Probe.read("{0, -0, 9223372036854775807, - -- so -- 9223372036854775807, {10 20}, a, a : 5}");
        long[] numbers = {0, 0, Long.MAX_VALUE, -Long.MAX_VALUE};
        for (int n = 0; n < numbers.length; n++) {
            int node = n + 1;
            probe.due("8 number " + node, numbers[n], () -> x.number(node));
        }
        probe.due("8 whole", UNSUPPORTED, () -> x.number(0));
        probe.due("8 braces", UNSUPPORTED, () -> x.number(5));
        probe.due("8 in braces", 10L, () -> x.number(6));
        probe.due("8 in braces", 20L, () -> x.number(7));
        probe.due("8 id", UNSUPPORTED, () -> x.number(8));
        probe.due("8 choice", UNSUPPORTED, () -> x.number(9));
        probe.due("8 its value", 5L, () -> x.number(10));
        probe.due("8 n over", ILLEGAL, () -> x.number(11));
        probe.due("8 n below", ILLEGAL, () -> x.number(-1));
        for (String other : new String[] {"TRUE", "FALSE", "NULL", "'1'B", "'1'H", "\"1\"", "{}"}) {
            probe.due("8 " + other, UNSUPPORTED, () -> Probe.read(other).number(0));
        }
    }

    private static void promise9() {
        NotationReader x = Probe.read("{' 0\t1\r\n1 'B, '0 9 AF'H, \"\"\"a\"\" -- \u007f\u0001\", name, name : 1, TRUE, 12}");
        unitsAre(x, 1, "011");
        unitsAre(x, 2, "09AF");
        unitsAre(x, 3, "\"a\" -- \u007f\u0001");
        for (int n : new int[] {0, 4, 5, 6, 7, 8}) {
            probe.due("9 of another node " + n, NONE, () -> x.unit(n, 0));
        }
        probe.due("9 n over", ILLEGAL, () -> x.unit(9, 0));
        probe.due("9 n below comes first", ILLEGAL, () -> x.unit(-1, -1));
        probe.due("9 highest i", NONE, () -> x.unit(1, Integer.MAX_VALUE));
        probe.due("9 lowest i", NONE, () -> x.unit(1, Integer.MIN_VALUE));
        probe.due("9 empty", NONE, () -> Probe.read("\"\"").unit(0, 0));
    }

    private static void unitsAre(NotationReader x, int n, String text) {
        probe.due("9 how many of " + n, text.length(), () -> x.node(n, 3));
        for (int i = 0; i < text.length(); i++) {
            int at = i;
            probe.due("9 unit(" + n + ", " + i + ")", (int) text.charAt(i), () -> x.unit(n, at));
        }
        probe.due("9 over of " + n, NONE, () -> x.unit(n, text.length()));
        probe.due("9 below of " + n, NONE, () -> x.unit(n, -1));
    }

    private static void promise10() {
        // 0 {, 1 ab, 2 ab :, 3 ab, 4 {, 5 ab, 6 "ab", 7 abc, 8 aB, 9 ac, 10 bb
        NotationReader x = Probe.read("{ab, ab : ab, {ab \"ab\"}, abc, aB, ac, bb}");
        int[] alike = {1, 2, 3, 5};
        for (int a : alike) {
            for (int b : alike) {
                probe.due("10 same(" + a + ", " + b + ")", true, () -> x.same(a, b));
            }
            for (int b : new int[] {7, 8, 9, 10}) {
                probe.due("10 same(" + a + ", " + b + ")", false, () -> x.same(a, b));
                probe.due("10 same(" + b + ", " + a + ")", false, () -> x.same(b, a));
            }
            for (int b : new int[] {0, 4, 6}) {
                probe.due("10 same(" + a + ", " + b + ")", UNSUPPORTED, () -> x.same(a, b));
                probe.due("10 same(" + b + ", " + a + ")", UNSUPPORTED, () -> x.same(b, a));
            }
            probe.due("10 over", ILLEGAL, () -> x.same(a, 11));
            probe.due("10 below", ILLEGAL, () -> x.same(-1, a));
        }
        probe.due("10 what stands behind is no part of it", true, () -> Probe.read("{ab, ab, c}").same(1, 2));
        probe.due("10 range comes first", ILLEGAL, () -> x.same(0, 11));
        probe.due("10 range comes first", ILLEGAL, () -> x.same(-1, 0));
        NotationReader y = Probe.read("{TRUE, FALSE, NULL, 1, '1'B, '1'H, \"a\", {}, {1}, {a 1}, {1 2}}");
        for (int n : new int[] {0, 1, 2, 3, 4, 5, 6, 7, 8, 9, 10, 11, 13, 14, 15, 16}) {
            probe.due("10 no id " + n, UNSUPPORTED, () -> y.same(n, n));
        }
        probe.due("10 id with a value", true, () -> y.same(12, 12));
    }

    private static void promise11() {
        NotationReader x = Probe.fed("{1, 2}");
        probe.due("11 length", 6, () -> x.count(0));
        probe.due("11 nodes", 0, () -> x.count(1));
        x.read();
        probe.due("11 length", 0, () -> x.count(0));
        probe.due("11 nodes", 3, () -> x.count(1));
        Probe.feed(x, "1");
        probe.due("11 both", 1, () -> x.count(0));
        probe.due("11 both", 3, () -> x.count(1));
        probe.due("11 over", ILLEGAL, () -> x.count(2));
        probe.due("11 below", ILLEGAL, () -> x.count(-1));
        probe.due("11 highest int", ILLEGAL, () -> x.count(Integer.MAX_VALUE));
    }
}
