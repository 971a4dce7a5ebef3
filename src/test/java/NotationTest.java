/** Tokens, forms of values, the bound on what is open, and the places at which a tape breaks. */
public final class NotationTest {
    private static final Probe probe = new Probe();

    public static void main(String[] args) {
        blanks();
        words();
        numbers();
        strings();
        bitsAndHex();
        signs();
        forms();
        places();
        bound();
        wholeTape();
        probe.finish();
    }

    private static void lies(String text, String layout) {
        probe.lies(text, layout);
    }

    private static void breaks(String text, int place) {
        probe.breaks(text, place);
    }

    private static void blanks() {
        lies("\t\n\r 5 \r\n\t", "4@4=5");
        breaks("\u000b5", 0);
        breaks("\f5", 0);
        breaks("\u00005", 0);
        breaks("5\u0000", 1);
        lies("--x--5", "4@5=5");
        lies("--x\n5--", "4@4=5");
        lies("----5", "4@4=5");
        lies("5-- to the end", "4@0=5");
        lies("5---6", "4@0=5");
        lies("------\n5", "4@7=5");
        breaks("---5", 4);
        breaks("--a--b--c--1", 11);
        breaks("-- \r 5", 6);
        lies("-- - \u0000\u0080\" ' --5", "4@13=5");
        lies("{1--x--2}", "13@0[1,2] 4@1=1 4@7=2");
        breaks("   ", 3);
        breaks("{ 1 -- open", 11);
    }

    private static void words() {
        lies("a", "5@0");
        lies("aB9-c-0z", "5@0");
        lies("a--x", "5@0");
        breaks("a-", 1);
        breaks("a-b-", 3);
        breaks("a-b-{", 3);
        breaks("a-b--\nc", 6);
        lies("zZ-zZ", "5@0");
        lies("{azAZ z09}", "12@0[1] 5@1[2] 5@6");
        breaks("a_b", 1);
        breaks("a\u00e4", 1);
        breaks("-a", 1);
        breaks("Abc", 0);
        breaks("T", 0);
        for (String kept : new String[] {"BOOLEAN", "MIN", "MAX", "UTF8String", "PrintableString", "IA5String",
            "NumericString", "VisibleString", "TRUEX", "TRU", "TRUE-1", "True", "NULLS", "FALS",
            "XRUE", "XALSE", "XULL", "Z"}) {
            breaks(kept, 0);
            breaks("{a " + kept + "}", 3);
        }
        lies("true", "5@0");
        lies("{TRUE,FALSE,NULL}", "11@0[1,2,3] 1@1 2@6 3@12");
        lies("{a-5}", "11@0[1] 5@1");
    }

    private static void numbers() {
        lies("0", "4@0=0");
        lies("- 12", "4@0=-12");
        lies("-\n--c--\n12", "4@0=-12");
        lies("9223372036854775807", "4@0=9223372036854775807");
        lies("-9223372036854775807", "4@0=-9223372036854775807");
        breaks("9223372036854775808", 0);
        breaks("-9223372036854775808", 1);
        breaks("9999999999999999999", 0);
        breaks("18446744073709551617", 0);
        breaks("92233720368547758070", 0);
        breaks("1" + "0".repeat(100), 0);
        breaks("00", 0);
        breaks("01", 0);
        breaks("-00", 1);
        breaks("{1, 007}", 4);
        breaks("{1 007}", 3);
        breaks("1a", 1);
        breaks("1.5", 1);
        breaks("- -1", 2);
        breaks("-", 1);
        breaks("-  ", 3);
        breaks("+1", 0);
    }

    private static void strings() {
        lies("\"\"", "8@0");
        lies("\"\"\"\"", "8@0/34");
        lies("\"a\"\"\"", "8@0/97.34");
        lies("\"\n\u0001\u007f--'{\"", "8@0/10.1.127.45.45.39.123");
        breaks("\"", 0);
        breaks("\"\"\"", 0);
        breaks("\"abc", 0);
        breaks(" \"abc\"\"", 1);
        breaks("\"a\u0000\"", 0);
        breaks("\"a\u0080\"", 0);
        breaks("\"a\u00ff\"", 0);
        breaks("\"a\" \"b\"", 4);
        breaks("{1 \"a}", 3);
    }

    private static void bitsAndHex() {
        lies("''B", "6@0");
        lies("''H", "7@0");
        lies("'01'B", "6@0/48.49");
        lies("'01'H", "7@0/48.49");
        lies("'09AF'H", "7@0/48.57.65.70");
        lies("'\t0\n1\r0 'B", "6@0/48.49.48");
        lies("'1--0'B--0'B", "6@0/49.48");
        lies("'A--x\nB'H", "7@0/65.66");
        breaks("'02'B", 0);
        breaks("'0A'B", 0);
        breaks("'0G'H", 0);
        breaks("'0a'H", 0);
        breaks("'01'", 0);
        breaks("'01'b", 0);
        breaks("'01'h", 0);
        breaks("'01' B", 0);
        breaks("'01'C", 0);
        breaks("'01", 0);
        breaks("'", 0);
        breaks("'0-1'B", 0);
        breaks("'0--1'B", 0);
        breaks("'0\u000b'B", 0);
        breaks("'01'BB", 5);
        breaks("'B'", 0);
    }

    private static void signs() {
        breaks("a ::= 1", 2);
        breaks("a :: 1", 3);
        breaks("a : ::= 1", 4);
        breaks("a:::=1", 2);
        breaks("a : := 1", 4);
        breaks("a .. 1", 2);
        breaks("a ... 1", 2);
        breaks("a . 1", 2);
        breaks("(1)", 0);
        breaks("[1]", 0);
        breaks("{1]", 2);
        breaks("{1)", 2);
        breaks("=", 0);
        breaks(",", 0);
        breaks(":", 0);
        breaks("}", 0);
        breaks("@", 0);
        breaks("\u0080", 0);
        breaks("\u00ff", 0);
    }

    private static void forms() {
        lies("{}", "10@0");
        lies("{--none--}", "10@0");
        lies("{1}", "11@0[1] 4@1=1");
        lies("{-1}", "11@0[1] 4@1=-1");
        lies("{1,2}", "11@0[1,2] 4@1=1 4@3=2");
        lies("{1 2}", "13@0[1,2] 4@1=1 4@3=2");
        lies("{1 2 3}", "13@0[1,2,3] 4@1=1 4@3=2 4@5=3");
        lies("{a}", "11@0[1] 5@1");
        lies("{a,b}", "11@0[1,2] 5@1 5@3");
        lies("{a b}", "12@0[1] 5@1[2] 5@3");
        lies("{a b,c d}", "12@0[1,3] 5@1[2] 5@3 5@5[4] 5@7");
        lies("{a:b}", "11@0[1] 9@1[2] 5@3");
        lies("{a:b,c}", "11@0[1,3] 9@1[2] 5@3 5@5");
        lies("{a b:c}", "12@0[1] 5@1[2] 9@3[3] 5@5");
        lies("{a -1}", "12@0[1] 5@1[2] 4@3=-1");
        lies("{a{}}", "12@0[1] 5@1[2] 10@2");
        lies("{a\"\"}", "12@0[1] 5@1[2] 8@2");
        lies("{a''B}", "12@0[1] 5@1[2] 6@2");
        lies("{a''H}", "12@0[1] 5@1[2] 7@2");
        lies("{a TRUE,a FALSE,a NULL,a 1}", "12@0[1,3,5,7] 5@1[2] 1@3 5@8[4] 2@10 5@16[6] 3@18 5@23[8] 4@25=1");
        lies("a:b:c", "9@0[1] 9@2[2] 5@4");
        lies("a:{}", "9@0[1] 10@2");
        lies("{{},{}}", "11@0[1,2] 10@1 10@4");
        lies("{a{b{1 2}},c{d}}", "12@0[1,7] 5@1[2] 12@2[3] 5@3[4] 13@4[5,6] 4@5=1 4@7=2 5@11[8] 11@12[9] 5@13");
    }

    private static void places() {
        breaks("", 0);
        breaks("{", 1);
        breaks("{1", 2);
        breaks("{1,", 3);
        breaks("{1,}", 3);
        breaks("{,1}", 1);
        breaks("{1 2", 4);
        breaks("{1 2,3}", 4);
        breaks("{1 2 a}", 5);
        breaks("{1 2 -3}", 5);
        breaks("{1 -2}", 3);
        breaks("{-1 2}", 4);
        breaks("{1,2 3}", 5);
        breaks("{a 1 2}", 5);
        breaks("{a 1,}", 5);
        breaks("{a 1,2}", 5);
        breaks("{a 1,b}", 6);
        breaks("{a 1,b:2}", 6);
        breaks("{a 1,b,c 2}", 6);
        breaks("{a,b 1}", 5);
        breaks("{a:1,b 2}", 7);
        breaks("{1,b 2}", 5);
        breaks("{a b c}", 5);
        breaks("{a -}", 4);
        breaks("{a @}", 3);
        breaks("{@ a}", 1);
        breaks("{a : }", 5);
        breaks("a:", 2);
        breaks("a : ", 4);
        breaks("a b", 2);
        breaks("TRUE:1", 4);
        breaks("1:1", 1);
        breaks("{}}", 2);
        breaks("{} {}", 3);
        breaks("{{}", 3);
        breaks("1,", 1);
    }

    private static void bound() {
        String open = "{".repeat(60);
        String close = "}".repeat(60);
        probe.due("60 {", 60, () -> Probe.fed(open + close).read());
        breaks("{" + open + close + "}", 60);
        probe.due("60 { with a value", 61, () -> Probe.fed(open + "1" + close).read());
        breaks("{".repeat(61), 60);
        breaks("{".repeat(2000), 60);
        probe.due("60 :", 61, () -> Probe.fed("a:".repeat(60) + "1").read());
        breaks("a:".repeat(61) + "1", 121);
        breaks("a:".repeat(2000) + "1", 121);
        breaks("a:".repeat(60) + "{}", 120);
        breaks(open + "a:1" + close, 61);
        breaks(open + "a{}" + close, 61);
        probe.due("an ID with its VALUE is not open", 120, () -> Probe.fed("{a".repeat(59) + "{1}" + "}".repeat(59)).read());
        breaks("{a".repeat(60) + "{}" + close, 120);
        probe.due("{ and : together", 61, () -> Probe.fed("{a:".repeat(30) + "1" + "}".repeat(30)).read());
        breaks("{a:".repeat(30) + "{}" + "}".repeat(30), 90);
        breaks("{a:".repeat(30) + "b:1" + "}".repeat(30), 91);
        probe.due("ended ones don't count", 1 + 2 * 100, () -> Probe.fed("{" + "a:1,".repeat(99) + "a:1}").read());
        probe.due("ended { don't count", 1 + 100, () -> Probe.fed("{" + "{},".repeat(99) + "{}}").read());
        String deep = "{".repeat(59) + "}".repeat(59);
        probe.due("as deep twice", 1 + 2 * 59, () -> Probe.fed("{" + deep + "," + deep + "}").read());
        probe.due("after a broken one", 60, () -> {
            NotationReader x = Probe.read("{".repeat(100));
            Probe.feed(x, open + close);
            return x.read();
        });
    }

    private static void wholeTape() {
        NotationReader x = Probe.fed("{1" + ",1".repeat(2037));
        Probe.feed(x, "}" + " ".repeat(18));
        probe.due("many values", 2039, x::read);
        probe.due("many values", 2038, () -> x.node(0, 2));
        probe.due("the last of many", 2038, () -> x.part(0, 2037));
        probe.due("behind the last", "NoSuchElementException", () -> x.part(0, 2038));
        NotationReader y = Probe.fed("\"" + "a".repeat(4078) + "\"");
        probe.due("a long text", 1, y::read);
        probe.due("a long text", 4078, () -> y.node(0, 3));
        NotationReader z = Probe.fed("b".repeat(4080));
        probe.due("a long name", 1, z::read);
        probe.due("a long name", true, () -> z.same(0, 0));
        manyReads();
    }

    /** What earlier reads said takes no room from later ones. */
    private static void manyReads() {
        NotationReader x = new NotationReader();
        for (int i = 0; i < 5; i++) {
            Probe.feed(x, "\"" + "c".repeat(1700) + i + "\"");
            int digit = '0' + i;
            probe.due("read again", 1, x::read);
            probe.due("read again", 1701, () -> x.node(0, 3));
            probe.due("read again", 'c' + 0, () -> x.unit(0, 1699));
            probe.due("read again", digit, () -> x.unit(0, 1700));
        }
    }
}
