/**
 * The sentences of the document's terms that name a boundary, in its order, each with a test of its own: what is too
 * small or too large, empty or full, what wraps around, and every byte beside a range.
 */
public final class TermsBoundaryTest {
    private static final String UNSUPPORTED = "UnsupportedOperationException";
    private static final int FULL = 4096;

    private static final Probe probe = new Probe();

    public static void main(String[] args) {
        terms();
        bound();
        places();
        probe.finish();
    }

    private static void terms() {
        fiveHundredAndTwelveCalls();
        fullTape();
        fullTapeAgain();
        tokensAtTheLastByte();
        blankBytes();
        comments();
        letters();
        dashesInWords();
        digitsOfNumbers();
        numbersTooGreat();
        stringBytes();
        stringQuotes();
        bitBytes();
        hexBytes();
        closingMarks();
        longestSign();
        keptWords();
        minusAlone();
        emptyBraces();
        twoTokensBehindBrace();
        shortestLists();
    }

    private static String at(int b) {
        return String.valueOf((char) b);
    }

    /** Blanks, then the text, up to the tape's last byte. */
    private static String last(String text) {
        return " ".repeat(FULL - text.length()) + text;
    }

    /** "An object is used for at most 512 calls after it has been made." */
    private static void fiveHundredAndTwelveCalls() {
        NotationReader x = new NotationReader();
        for (int i = 1; i < 510; i += 3) {
            int digit = '0' + i % 10;
            probe.due("call " + i, 20, () -> x.feed(digit << 24 | 0x202020, 0x20202020, 0x20202020, 0x20202020, 0x20202020));
            probe.due("call " + (i + 1), 1, x::read);
            probe.due("call " + (i + 2), digit - '0', () -> x.number(0));
        }
        probe.due("call 511", -1, x::place);
        probe.due("call 512", 1, () -> x.count(1));
    }

    /** "THE TAPE has at most 4096 bytes." */
    private static void fullTape() {
        probe.due("full", FULL, () -> Probe.fed(" ".repeat(FULL)).count(0));
        probe.breaks(" ".repeat(FULL), FULL);
        probe.due("full of values", 2048, () -> Probe.fed(" {1" + ",1".repeat(2046) + "}").read());
        probe.due("full of numbers", 2048, () -> Probe.fed("{" + "1 ".repeat(2047) + "}").read());
        probe.due("full of names", 2047, () -> Probe.fed("{a 1" + ",a 1".repeat(1022) + "   }").read());
        probe.due("full text", FULL - 2, () -> Probe.read("\"" + "x".repeat(FULL - 2) + "\"").node(0, 3));
        probe.due("full text's last byte", 'y' + 0, () -> Probe.read("\"" + "x".repeat(FULL - 3) + "y\"").unit(0, FULL - 3));
        probe.due("full of quotes", FULL / 2 - 1, () -> Probe.read("\"".repeat(FULL)).node(0, 3));
        probe.due("full bits", FULL - 3, () -> Probe.read("'" + "1".repeat(FULL - 3) + "'B").node(0, 3));
        probe.due("full hex's last digit", 'F' + 0, () -> Probe.read("'" + "0".repeat(FULL - 4) + "F'H").unit(0, FULL - 4));
        probe.due("full name", 5, () -> Probe.read("n".repeat(FULL)).node(0, 0));
        probe.due("full names", true, () -> Probe.read("n".repeat(FULL / 2 - 1) + ": " + "n".repeat(FULL / 2 - 1)).same(0, 1));
        probe.due("full names", false, () -> Probe.read("n".repeat(FULL / 2 - 1) + ":" + "n".repeat(FULL / 2)).same(0, 1));
        probe.breaks("T".repeat(FULL), 0);
        probe.breaks("1".repeat(FULL), 0);
        probe.breaks("-".repeat(FULL), FULL);
        probe.breaks("{".repeat(FULL), 60);
    }

    /** "THE TAPE has at most 4096 bytes": a second one has as much room as the first. */
    private static void fullTapeAgain() {
        NotationReader x = new NotationReader();
        for (int mark : new int[] {'p', 'q'}) {
            Probe.feed(x, "\"" + "x".repeat(FULL - 3) + at(mark) + "\"");
            probe.due("full, " + at(mark), 1, x::read);
            probe.due("bytes, " + at(mark), FULL - 2, () -> x.node(0, 3));
            probe.due("last byte, " + at(mark), mark, () -> x.unit(0, FULL - 3));
        }
    }

    /** "THE TAPE has at most 4096 bytes": a token may end with the last one. */
    private static void tokensAtTheLastByte() {
        probe.lies(last("TRUE"), "1@4092");
        probe.lies(last("z"), "5@4095");
        probe.lies(last("7"), "4@4095=7");
        probe.lies(last("-7"), "4@4094=-7");
        probe.lies(last("\"\""), "8@4094");
        probe.lies(last("''B"), "6@4093");
        probe.lies(last("'A'H"), "7@4092/65");
        probe.lies(last("{}"), "10@4094");
        probe.lies(last("7--"), "4@4093=7");
        probe.breaks(last("-"), FULL);
        probe.breaks(last("a:"), FULL);
        probe.breaks(last("a-"), 4095);
        probe.breaks(last("a::"), 4095);
        probe.breaks(last("{"), FULL);
        probe.breaks(last("\""), 4095);
        probe.breaks(last("'"), 4095);
        probe.breaks(last("'1"), 4094);
        probe.breaks(last("'1'"), 4093);
        probe.breaks(last("\"\"\""), 4093);
        probe.breaks(last("T"), 4095);
        probe.breaks(last("."), 4095);
    }

    /** "Blanks are the bytes 9, 10, 13, 32." */
    private static void blankBytes() {
        for (int b = 0; b < 256; b++) {
            if (b == 9 || b == 10 || b == 13 || b == 32) {
                probe.lies(at(b) + "{" + at(b) + "}" + at(b), "10@1");
            } else {
                probe.breaks("{}" + at(b), 2);
            }
        }
    }

    /** "-- and all up to the next --, 10 or the end is one." */
    private static void comments() {
        for (int b = 0; b < 256; b++) {
            if (b == 10) {
                probe.breaks("1--" + at(b) + "2", 4);
                probe.breaks("--" + at(b) + "--2", 6);
            } else {
                probe.lies("-- " + at(b) + " --2", "4@7=2");
                probe.lies("1--" + at(b) + "2", "4@0=1");
            }
        }
        probe.lies("----1", "4@4=1");
        probe.breaks("---1", 4);
        probe.lies("---\n1", "4@4=1");
        probe.lies("-----1", "4@4=-1");
        probe.breaks("------1", 7);
        probe.lies("--\n1", "4@3=1");
        probe.breaks("--", 2);
        probe.lies("1--", "4@0=1");
        probe.lies("1 -- -", "4@0=1");
        probe.lies("1 -- - --", "4@0=1");
        probe.breaks("1 -- - -- 2", 10);
    }

    /** "WORD: a letter, then letters, digits and -": the bytes beside each range are none. */
    private static void letters() {
        for (int b = 0; b < 256; b++) {
            boolean small = b >= 'a' && b <= 'z';
            boolean capital = b >= 'A' && b <= 'Z';
            boolean digit = b >= '0' && b <= '9';
            if (small) {
                probe.lies(at(b), "5@0");
            }
            if (capital) {
                probe.breaks(at(b), 0);
            }
            if (small || capital || digit) {
                probe.lies("q" + at(b) + "q", "5@0");
                probe.lies("q-" + at(b), "5@0");
            } else if (b != '-' && b != 9 && b != 10 && b != 13 && b != ' ' && b != ':') {
                probe.breaks("q" + at(b), 1);
            }
        }
    }

    /** "no - at its end, nor two together: those end it before" */
    private static void dashesInWords() {
        probe.breaks("a-", 1);
        probe.breaks("a-b-", 3);
        probe.breaks("a-:1", 1);
        probe.breaks("{a -}", 4);
        probe.breaks("{a-}", 3);
        probe.lies("a-b", "5@0");
        probe.lies("a-b-c-1", "5@0");
        probe.lies("a--b", "5@0");
        probe.lies("a--b--:1", "9@0[1] 4@7=1");
        probe.breaks("a-b--c--d", 8);
        probe.due("ended before --", true, () -> Probe.read("{a-b--c--,a-b}").same(1, 2));
        probe.due("ended before - at its end", true, () -> Probe.read("{a -1}").same(1, 1));
        probe.lies("{a-1}", "11@0[1] 5@1");
        probe.lies("{a- 1}", "12@0[1] 5@1[2] 4@2=-1");
        probe.lies("a---1", "5@0");
    }

    /** "NUMBER: digits, as many as follow, 0 or not beginning with 0" */
    private static void digitsOfNumbers() {
        probe.lies("0", "4@0=0");
        probe.lies("-0", "4@0=0");
        for (int d = 0; d <= 9; d++) {
            probe.lies("" + d, "4@0=" + d);
            probe.lies("1" + d, "4@0=1" + d);
            probe.breaks("0" + d, 0);
            probe.breaks("{1 0" + d + "}", 3);
            probe.breaks("{0 00" + d + "}", 3);
        }
        probe.lies("{0 0}", "13@0[1,2] 4@1=0 4@3=0");
        probe.breaks("0x", 1);
        probe.breaks("0 0", 2);
    }

    /** "below 2^63 (others are no TOKEN)" */
    private static void numbersTooGreat() {
        probe.lies("9223372036854775806", "4@0=9223372036854775806");
        probe.lies("9223372036854775807", "4@0=9223372036854775807");
        probe.lies("-9223372036854775807", "4@0=-9223372036854775807");
        probe.lies("1000000000000000000", "4@0=1000000000000000000");
        String[] tooGreat = {
            "9223372036854775808", "9223372036854775809", "9223372036854775810", "9300000000000000000",
            "9999999999999999999", "10000000000000000000", "18446744073709551615", "18446744073709551616",
            "18446744073709551617", "27670116110564327423", "36893488147419103232", "36893488147419103239",
            "184467440737095516160", "340282366920938463463374607431768211456", "92233720368547758070",
        };
        for (String number : tooGreat) {
            probe.breaks(number, 0);
            probe.breaks("-" + number, 1);
            probe.breaks("{1 " + number + "}", 3);
            probe.breaks("{1 2 " + number + "}", 5);
            probe.breaks("{a " + number + "}", 3);
        }
    }

    /** "STRING: .. bytes 1 to 127 alone." */
    private static void stringBytes() {
        for (int b = 0; b < 256; b++) {
            String text = "\"<" + at(b) + ">\"";
            if (b == 0 || b > 127) {
                probe.breaks(text, 0);
                probe.breaks("{1," + text + "}", 3);
            } else if (b != '"') {
                probe.lies(text, "8@0/60." + b + ".62");
            }
        }
    }

    /** "all up to a " that is not followed by another one ("" stands for one)" */
    private static void stringQuotes() {
        probe.lies("\"\"", "8@0");
        probe.lies("\"\"\"\"", "8@0/34");
        probe.lies("\"\"\"\"\"\"", "8@0/34.34");
        probe.lies("\"a\"\"b\"", "8@0/97.34.98");
        probe.breaks("\"\"\"", 0);
        probe.breaks("\"\"\"\"\"", 0);
        probe.breaks("\"a\"\"", 0);
        probe.breaks("\"\" \"\"", 3);
        probe.breaks("\"a\"\u0080", 3);
    }

    /** "BITS: ' with 0, 1 and blanks and 'B" */
    private static void bitBytes() {
        for (int b = 0; b < 256; b++) {
            String text = "'1" + at(b) + "0'B";
            if (b == '0' || b == '1') {
                probe.lies(text, "6@0/49." + b + ".48");
            } else if (b == 9 || b == 10 || b == 13 || b == 32) {
                probe.lies(text, "6@0/49.48");
            } else {
                probe.breaks(text, 0);
                probe.breaks("{a," + text + "}", 3);
            }
        }
        probe.lies("' \t\r\n'B", "6@0");
        probe.lies("''B", "6@0");
    }

    /** "HEX: ' with 0 .. 9, A .. F and blanks and 'H" */
    private static void hexBytes() {
        for (int b = 0; b < 256; b++) {
            String text = "'A" + at(b) + "0'H";
            if (b >= '0' && b <= '9' || b >= 'A' && b <= 'F') {
                probe.lies(text, "7@0/65." + b + ".48");
            } else if (b == 9 || b == 10 || b == 13 || b == 32) {
                probe.lies(text, "7@0/65.48");
            } else {
                probe.breaks(text, 0);
                probe.breaks("{a," + text + "}", 3);
            }
        }
        probe.lies("' \t\r\n'H", "7@0");
        probe.lies("''H", "7@0");
    }

    /** "and 'B .. and 'H": no other byte closes them, and nothing stands between. */
    private static void closingMarks() {
        for (int b = 0; b < 256; b++) {
            if (b != 'B' && b != 'H') {
                probe.breaks("'1'" + at(b), 0);
                probe.breaks("'1'" + at(b) + "B", 0);
                probe.breaks("'A'" + at(b) + "H", 0);
            }
        }
        probe.breaks("'A'B", 0);
        probe.breaks("'2'B", 0);
        probe.breaks("'1''B", 0);
        probe.breaks("'1'BH", 4);
        probe.breaks("'1'H1", 4);
    }

    /** "Signs: .. (the longest)" */
    private static void longestSign() {
        probe.breaks("a::=1", 1);
        probe.breaks("a::1", 2);
        probe.breaks("a:=1", 2);
        probe.breaks("a:", 2);
        probe.breaks("a::", 2);
        probe.breaks("a:::=1", 2);
        probe.breaks("{a::=1}", 2);
        for (String sign : new String[] {"::=", "..", "...", "....", ".", "(", ")", "[", "]"}) {
            probe.breaks(sign, 0);
            probe.breaks("{" + sign, 1);
            probe.breaks("{a" + sign + "}", 2);
            probe.breaks("a:" + sign, 2);
        }
    }

    /** "is KEPT; others that begin with a capital are TYPENAMES, the rest IDS" */
    private static void keptWords() {
        String[] words = {
            "BOOLEAN", "MIN", "MAX", "UTF8String", "PrintableString", "IA5String", "NumericString", "VisibleString",
            "INTEGER", "TRU", "XRUE", "TRUEE", "TRUE1", "TRUE-a", "True", "TRUe", "FALS", "XALSE", "FALSEE", "NUL", "XULL",
            "NULLL", "A", "Z", "Ab-c",
        };
        for (String word : words) {
            probe.breaks(word, 0);
            probe.breaks("{a " + word + "}", 3);
            probe.breaks("{" + word + " 1}", 1);
            probe.breaks(word + ":1", 0);
        }
        for (String id : new String[] {"tRUE", "true", "null", "min", "a", "z", "bOOLEAN"}) {
            probe.lies(id, "5@0");
        }
        probe.lies("TRUE--", "1@0");
        probe.breaks("TRUE-", 4);
        probe.breaks("TRUE:1", 4);
        probe.breaks("{TRUE 1}", 6);
    }

    /** "N: [-] NUMBER." */
    private static void minusAlone() {
        probe.breaks("-", 1);
        probe.breaks("- ", 2);
        probe.breaks("- a", 2);
        probe.breaks("- -1", 2);
        probe.breaks("{-}", 2);
        probe.breaks("-{1}", 1);
        probe.breaks("-TRUE", 1);
        probe.lies("-\n1", "4@0=-1");
        probe.lies("- --x--1", "4@0=-1");
    }

    /** "{ } | { VALUE {, VALUE} }": nothing, one, and a comma too many. */
    private static void emptyBraces() {
        probe.lies("{}", "10@0");
        probe.lies("{ --x\n }", "10@0");
        probe.lies("{{}}", "11@0[1] 10@1");
        probe.breaks("{,}", 1);
        probe.breaks("{{},}", 4);
        probe.breaks("{{},,{}}", 4);
        probe.breaks("{{}{}}", 3);
        probe.breaks("{:1}", 1);
    }

    /** "the two TOKENS behind it say which: ID and one that can begin a VALUE, NUMBER and NUMBER, or neither" */
    private static void twoTokensBehindBrace() {
        String[] beginnings = {"TRUE", "FALSE", "NULL", "1", "-1", "b", "b:1", "''B", "''H", "\"\"", "{}", "{1 2}"};
        for (String value : beginnings) {
            probe.due("{ID and " + value, 12, () -> Probe.read("{a " + value + "}").node(0, 0));
            probe.due("{NUMBER and " + value, value.equals("1") ? "13" : UNSUPPORTED, () -> formOf("{1 " + value + "}"));
            probe.due("{ID, " + value, 11, () -> Probe.read("{a, " + value + "}").node(0, 0));
        }
        probe.due("ID alone", 11, () -> formOf("{a}"));
        probe.due("NUMBER alone", 11, () -> formOf("{1}"));
        probe.due("ID and :", 11, () -> formOf("{a:1}"));
        probe.breaks("{a -}", 4);
        probe.breaks("{a b c}", 5);
        probe.breaks("{a b,c}", 6);
        probe.breaks("{a b,c:1}", 6);
        probe.breaks("{a b,1}", 5);
        probe.breaks("{a,b 1}", 5);
        probe.breaks("{a:1,b 1}", 7);
        probe.breaks("{-1 2}", 4);
        probe.breaks("{1,2 3}", 5);
    }

    private static Object formOf(String text) {
        NotationReader x = Probe.fed(text);
        x.read();
        return x.node(0, 0);
    }

    /** "{ ID VALUE {, ID VALUE} } | { NUMBER NUMBER {NUMBER} }": the shortest, and what cuts or overfills them. */
    private static void shortestLists() {
        probe.lies("{a 1}", "12@0[1] 5@1[2] 4@3=1");
        probe.lies("{a 1,b 2}", "12@0[1,3] 5@1[2] 4@3=1 5@5[4] 4@7=2");
        probe.lies("{1 2}", "13@0[1,2] 4@1=1 4@3=2");
        probe.lies("{1 2 3}", "13@0[1,2,3] 4@1=1 4@3=2 4@5=3");
        probe.breaks("{a 1,}", 5);
        probe.breaks("{a 1 b 2}", 5);
        probe.breaks("{a 1", 4);
        probe.breaks("{1 2,3}", 4);
        probe.breaks("{1 2 -3}", 5);
        probe.breaks("{1 2 a}", 5);
        probe.breaks("{1 2", 4);
    }

    /** "At most 60 { and : of VALUES are begun and not ended at a time; the TOKEN with which one more would begin .." */
    private static void bound() {
        for (int open = 58; open <= 62; open++) {
            boundOf(open);
        }
        String deep = "{".repeat(59) + "1" + "}".repeat(59);
        probe.due("ended ones make room", 121, () -> Probe.fed("{" + deep + "," + deep + "}").read());
        probe.breaks("{" + deep + ",{" + deep + "}}", 180);
        String chain = "a:".repeat(59) + "1";
        probe.due("ended : make room", 121, () -> Probe.fed("{" + chain + "," + chain + "}").read());
        probe.breaks("{" + chain + ",a:" + chain + "}", 240);
        probe.due("an ID with its VALUE is none of them", 121, () -> Probe.fed("{a".repeat(60) + " 1" + "}".repeat(60)).read());
        probe.breaks("{a".repeat(60) + "{1}" + "}".repeat(60), 120);
        probe.breaks("{a".repeat(60) + " b:1" + "}".repeat(60), 122);
        probe.due("numbers in the 60th", 62, () -> Probe.fed("{".repeat(60) + "1 2" + "}".repeat(60)).read());
        probe.breaks("{".repeat(60) + "{1 2}" + "}".repeat(60), 60);
        probe.breaks("{".repeat(60) + "a :1" + "}".repeat(60), 62);
        probe.breaks("{".repeat(60) + "a--x--:1" + "}".repeat(60), 66);
        probe.breaks("{".repeat(60) + "a,b:1" + "}".repeat(60), 63);
        probe.breaks("{".repeat(60) + "a" + "}".repeat(59), 120);
    }

    private static void boundOf(int open) {
        String braces = "{".repeat(open) + "}".repeat(open);
        String colons = "a:".repeat(open) + "1";
        String mixed = "{a:".repeat(open / 2) + (open % 2 == 1 ? "{}" : "1") + "}".repeat(open / 2);
        String turned = "a:{".repeat(open / 2) + (open % 2 == 1 ? "a:1" : "") + "}".repeat(open / 2);
        if (open <= 60) {
            probe.due(open + " {", open, () -> Probe.fed(braces).read());
            probe.due(open + " :", open + 1, () -> Probe.fed(colons).read());
            probe.due(open + " {:", open + 1 - open % 2, () -> Probe.fed(mixed).read());
            probe.due(open + " :{", open + open % 2, () -> Probe.fed(turned).read());
        } else {
            probe.breaks(braces, 60);
            probe.breaks(colons, 121);
            probe.breaks(mixed, 90);
            probe.breaks(turned, 91);
        }
    }

    /** "SYNTAX is broken at the PLACE (from 0) of the first TOKEN with which it can't go on (its length at the end; ..)" */
    private static void places() {
        probe.breaks("", 0);
        probe.breaks(" ", 1);
        probe.breaks("{1,2 ", 5);
        probe.breaks("{1 --x", 6);
        probe.breaks("@", 0);
        probe.breaks("{1 @", 3);
        probe.breaks("1 2 @", 2);
        probe.breaks("1 @ 2", 2);
        probe.breaks("{1,} 00 \"", 3);
        probe.breaks("{a \"x", 3);
        probe.breaks("{a 'x'B", 3);
        probe.breaks("{a '1", 3);
        probe.breaks("{a \"\u0000\"", 3);
        allOfTheTape();
        nodesInOrder();
    }

    /** "All of THE TAPE is the VALUE." */
    private static void allOfTheTape() {
        for (String value : new String[] {"TRUE", "1", "a", "''B", "\"\"", "{}", "a:1", "{1 2}"}) {
            int length = value.length();
            probe.breaks(value + " 1", length + 1);
            probe.breaks(value + " }", length + 1);
            probe.breaks(value + ",", length);
            probe.breaks(value + " TRUE", length + 1);
            probe.breaks(value + " \u0000", length + 1);
            probe.due("blanks behind", -1, () -> Probe.read(value + " \r\n\t--").place());
        }
    }

    /** "numbered from 0 in the order in which they begin" */
    private static void nodesInOrder() {
        probe.lies("{a{b{c 1,d e:2},f 3},g{4 5}}", "12@0[1,12] 5@1[2] 12@2[3,10] 5@3[4] 12@4[5,7] 5@5[6] 4@7=1 "
                + "5@9[8] 9@11[9] 4@13=2 5@16[11] 4@18=3 5@21[13] 13@22[14,15] 4@23=4 4@25=5");
    }
}
