/** "JSON" of "Terms": which texts are a VALUE, up to each limit and beyond it. */
public final class T2JsonTest {
    public static void main(String[] args) {
        Desk.sentence("Blanks are the bytes 9, 10, 13, 32", T2JsonTest::blanks);
        Desk.sentence("VALUE: null | true | false | NUMBER | STRING", T2JsonTest::valuesWithoutParts);
        Desk.sentence("[ ] | [ VALUE {, VALUE} ]", T2JsonTest::arrays);
        Desk.sentence("{ } | { STRING : VALUE {, STRING : VALUE} }", T2JsonTest::objects);
        Desk.sentence("blanks before and behind each of these signs, and of a VALUE", T2JsonTest::placesOfBlanks);
        Desk.sentence("NUMBER: [-] 0 or digits that do not begin with 0", T2JsonTest::digits);
        Desk.sentence("not above 2^53 - 1 in size", T2JsonTest::sizeOfNumbers);
        Desk.sentence("(- and 0: 0)", T2JsonTest::minusZero);
        Desk.sentence("no . e E behind it", T2JsonTest::noFractions);
        Desk.sentence("STRING: \" CHARACTERS \"", T2JsonTest::strings);
        Desk.sentence("CHARACTER: a byte 32 .. 126 but \" and \\", T2JsonTest::plainBytes);
        Desk.sentence("or \\ and one of \" \\ / b f n r t", T2JsonTest::signsBehindBackslash);
        Desk.sentence("or \\u and four of 0 .. 9 a .. f A .. F", T2JsonTest::fourDigits);
        Desk.sentence("a UNIT, 0 .. 65535", T2JsonTest::leastAndGreatestUnit);
        Desk.sentence("A UNIT 55296 .. 56319 and one 56320 .. 57343 behind it are one CHARACTER", T2JsonTest::twoUnits);
        Desk.sentence("either alone is none", T2JsonTest::unitsAlone);
        Desk.sentence("At most 32 [ and { are one within another", T2JsonTest::depth);
        Desk.sentence("Names of one { } are different", T2JsonTest::names);
        Desk.sentence("A DOCUMENT is a VALUE", T2JsonTest::oneDocument);
        Desk.sentence("(What is behind it but blanks breaks it.)", T2JsonTest::behindTheDocument);
        Desk.close();
    }

    private static boolean isBlank(int b) {
        return b == 9 || b == 10 || b == 13 || b == 32;
    }

    private static void blanks() {
        for (int b = 0; b < 256; b++) {
            if (isBlank(b)) {
                Desk.taken("[]" + (char) b, "[]");
                Desk.taken((char) b + "[" + (char) b + "]", "[]");
            } else {
                Desk.refused("[]" + (char) b, 2);
            }
            if (!isBlank(b) && "[{\"-0123456789tfn".indexOf(b) < 0) {
                Desk.refused((char) b + "[]", 0);
            }
        }
    }

    private static void valuesWithoutParts() {
        for (String word : new String[] {"null", "true", "false"}) {
            Desk.taken(word);
            Desk.refused(word.toUpperCase(), 0);
            for (int i = 1; i < word.length(); i++) {
                Desk.refused(word.substring(0, i), i);
                Desk.refused(word.substring(0, i) + "x" + word.substring(i + 1), i);
                Desk.refused("[" + word.substring(0, i) + "]", i + 1);
            }
            Desk.refused(word + word, word.length());
        }
        Desk.taken("5");
        Desk.taken("\"5\"");
        Desk.refused("", 0);
        Desk.refused("nil", 1);
        Desk.refused("'a'", 0);
        Desk.refused("\u00ef\u00bb\u00bf1", 0);
    }

    private static void arrays() {
        Desk.taken("[]");
        Desk.taken("[1]");
        Desk.taken("[1,2]");
        Desk.taken("[[],[[]],{},\"\",null]");
        Desk.refused("[,]", 1);
        Desk.refused("[,1]", 1);
        Desk.refused("[1,]", 3);
        Desk.refused("[1,,2]", 3);
        Desk.refused("[1 2]", 3);
        Desk.refused("[1:2]", 2);
        Desk.refused("[1}", 2);
        Desk.refused("]", 0);
        Desk.refused(",", 0);
        Desk.refused("[\"a\":1]", 4);
    }

    private static void objects() {
        Desk.taken("{}");
        Desk.taken("{\"a\":1}");
        Desk.taken("{\"a\":1,\"\":{}}");
        Desk.refused("{,}", 1);
        Desk.refused("{]", 1);
        Desk.refused("}", 0);
        Desk.refused(":", 0);
        Desk.refused("{1:2}", 1);
        Desk.refused("{null:2}", 1);
        Desk.refused("{a:2}", 1);
        Desk.refused("{[]:2}", 1);
        Desk.refused("{\"a\"}", 4);
        Desk.refused("{\"a\",1}", 4);
        Desk.refused("{\"a\":}", 5);
        Desk.refused("{\"a\":,}", 5);
        Desk.refused("{\"a\"::1}", 5);
        Desk.refused("{\"a\":1]", 6);
        Desk.refused("{\"a\":1:2}", 6);
        Desk.refused("{\"a\":1,}", 7);
        Desk.refused("{\"a\":1,2}", 7);
        Desk.refused("{\"a\":1 \"b\":2}", 7);
    }

    private static void placesOfBlanks() {
        String[] signs = {"{", "\"a b\"", ":", "[", "1", ",", "[", "]", ",", "true", "]", ",", "\"\"", ":", "{", "}", "}"};
        String tight = String.join("", signs);
        String blank = " \t\r\n";
        Desk.taken(blank + String.join(blank, signs) + blank, tight);
        for (int i = 0; i <= signs.length; i++) {
            StringBuilder text = new StringBuilder();
            for (int k = 0; k < signs.length; k++) {
                text.append(k == i ? "\n" : "").append(signs[k]);
            }
            Desk.taken(text.append(i == signs.length ? "\n" : "").toString(), tight);
        }
        Desk.refused("nu ll", 2);
        Desk.refused("1 2", 2);
        Desk.refused("- 1", 1);
        Desk.refused("[1, ,2]", 4);
        Desk.refused("{\"a\" \"b\":1}", 5);
        Desk.refused("\"\t\"", 1);
        Desk.refused("\"\\u 0041\"", 1);
    }

    private static void digits() {
        for (String number : new String[] {"0", "1", "9", "10", "100", "-1", "-10", "1234567890"}) {
            Desk.taken(number);
        }
        Desk.refused("00", 1);
        Desk.refused("01", 1);
        Desk.refused("-00", 2);
        Desk.refused("-01", 2);
        Desk.refused("[01]", 2);
        Desk.refused("0000000000000000000001", 1);
        Desk.refused("-", 1);
        Desk.refused("--1", 1);
        Desk.refused("[-]", 2);
        Desk.refused("-a", 1);
        Desk.refused("+1", 0);
        Desk.refused("1-", 1);
        Desk.refused("0x1", 1);
        Desk.refused("1/", 1);
        Desk.refused("1:", 1);
        Desk.refused("/", 0);
    }

    // Beyond 64 bits a size could wrap around: 10^64 is 0 there, and 2^64 + 7 is 7.
    private static void sizeOfNumbers() {
        Desk.taken("9007199254740990");
        Desk.taken("9007199254740991");
        Desk.taken("-9007199254740991");
        String[] tooGreat = {
            "9007199254740992", "9007199254740993", "9007199254741000", "9999999999999999", "10000000000000000",
            "90071992547409910", "4503599627370496000", "9223372036854775807", "9223372036854775808",
            "18446744073709551615", "18446744073709551616", "18446744073709551623", "27670116110564327424",
            "184467440737095516160", "1" + "0".repeat(64), "9".repeat(400), "1" + "0".repeat(4094),
        };
        for (String number : tooGreat) {
            Desk.refused(number, 0);
            Desk.refused("-" + number, 0);
        }
    }

    private static void minusZero() {
        Desk.taken("-0", "0");
        Desk.taken("[-0,0,-1]", "[0,0,-1]");
        Desk desk = new Desk().read(0, "-0").read(1, "0");
        Desk.due("number of -0", 0L, desk.shelf.about(0, 3));
        Desk.due("-0 is the same as 0", true, desk.shelf.same(0, 1));
    }

    private static void noFractions() {
        for (String sign : new String[] {".", "e", "E"}) {
            Desk.refused("1" + sign + "5", 0);
            Desk.refused("1" + sign, 0);
            Desk.refused("0" + sign + "0", 0);
            Desk.refused("-0" + sign + "0", 0);
            Desk.refused("9007199254740991" + sign + "0", 0);
            Desk.refused("[1" + sign + "5]", 1);
        }
        Desk.refused("1d", 1);
        Desk.refused("1f", 1);
    }

    private static void strings() {
        Desk.taken("\"\"");
        Desk.taken("\"a\"");
        Desk.taken("\"[1,{:}]\"");
        Desk.taken(Desk.stringOf(4096));
        Desk.refused("\"", 1);
        Desk.refused("\"a", 2);
        Desk.refused("\"a\\\"", 4);
        Desk.refused("a\"", 0);
        Desk.refused("\"\"\"", 2);
    }

    private static void plainBytes() {
        for (int b = 0; b < 256; b++) {
            String text = "[\"a" + (char) b + "b\"]";
            if (b == '"') {
                Desk.refused(text, 4);
            } else if (b == '\\') {
                Desk.taken(text, "[\"a\\b\"]");
            } else if (b >= 32 && b <= 126) {
                Desk.taken(text);
            } else {
                Desk.refused(text, 3);
            }
        }
    }

    private static void signsBehindBackslash() {
        for (int b = 0; b < 256; b++) {
            String text = "\"a\\" + (char) b + "c\"";
            if ("\"\\bfnrt".indexOf(b) >= 0) {
                Desk.taken(text);
            } else if (b == '/') {
                Desk.taken(text, "\"a/c\"");
            } else {
                Desk.refused(text, 2);
            }
        }
    }

    private static void fourDigits() {
        for (int b = 0; b < 256; b++) {
            boolean isDigit = "0123456789abcdefABCDEF".indexOf(b) >= 0;
            for (int i = 0; i < 4; i++) {
                String digits = "1111".substring(0, i) + (char) b + "1111".substring(i + 1);
                if (!isDigit) {
                    Desk.refused("\"a\\u" + digits + "\"", 2);
                } else if (!digits.matches("00..")) {
                    Desk.taken("\"\\u" + digits + "\"", "\"\\u" + digits.toLowerCase() + "\"");
                }
            }
        }
        Desk.refused("\"\\u\"", 1);
        Desk.refused("\"\\u123\"", 1);
        Desk.taken("\"\\u12345\"");
        Desk.refused("\"\\U1234\"", 1);
    }

    private static void leastAndGreatestUnit() {
        Desk.taken("\"\\u0000\"");
        Desk.taken("\"\\uFFFF\"", "\"\\uffff\"");
        Desk desk = new Desk().read(0, "\"\\u0000\"").read(1, "\"\\uffff\"").read(2, "\"\"");
        Desk.due("least and greatest are two", false, desk.shelf.same(0, 1));
        Desk.due("the least is not none", false, desk.shelf.same(0, 2));
        Desk.due("the least counts", 1L, desk.shelf.about(0, 1));
    }

    private static void twoUnits() {
        String[] firsts = {"d800", "d801", "dbfe", "dbff"};
        String[] seconds = {"dc00", "dc01", "dffe", "dfff"};
        for (String first : firsts) {
            for (String second : seconds) {
                String text = "\"\\u" + first + "\\u" + second + "\"";
                Desk.taken(text);
                Desk.due("characters of " + text, 1L, new Desk().read(0, text).shelf.about(0, 1));
            }
        }
        Desk.taken("\"\\uD83D\\uDE00\"", "\"\\ud83d\\ude00\"");
        Desk.taken("\"\\ud800\\udc00\\ud800\\udc00\"");
    }

    private static void unitsAlone() {
        for (String first : new String[] {"d800", "dbff"}) {
            for (String behind : new String[] {"", "a", "\\n", "\\ud7ff", "\\ue000", "\\ud800", "\\udbff", "\\u0041"}) {
                Desk.refused("\"\\u" + first + behind + "\"", 1);
            }
        }
        for (String second : new String[] {"dc00", "dfff"}) {
            Desk.refused("\"\\u" + second + "\"", 1);
            Desk.refused("\"a\\u" + second + "\\ud800\"", 2);
            Desk.refused("\"\\ud800\\udc00\\u" + second + "\"", 13);
        }
        Desk.taken("\"\\ud7ff\"");
        Desk.taken("\"\\ue000\"");
        Desk.taken("\"\\ue000\\ud7ff\"");
    }

    private static void depth() {
        String arrays = "[".repeat(32) + "]".repeat(32);
        Desk.taken(arrays);
        Desk.taken("[".repeat(32) + "1" + "]".repeat(32));
        Desk.refused("[" + arrays + "]", 32);
        Desk.refused("[".repeat(4000), 32);
        String objects = "{\"a\":".repeat(31) + "{}" + "}".repeat(31);
        Desk.taken(objects);
        Desk.refused("[" + objects + "]", 1 + 31 * 5);
        Desk.refused("{\"a\":" + arrays + "}", 5 + 31);
        Desk.refused("[".repeat(32) + "{}" + "]".repeat(32), 32);
        // Only what is open counts, however many there are beside one another.
        String deep = "[".repeat(31) + "]".repeat(31);
        Desk.taken("[" + deep + "," + deep + "]");
        Desk.taken("[" + "[],".repeat(100) + "{}]");
        Desk.refused("[" + deep + ",[" + deep + "]]", 1 + 62 + 1 + 31);
    }

    private static void names() {
        Desk.refused("{\"a\":1,\"a\":1}", 7);
        Desk.refused("{\"\":1,\"\":2}", 6);
        Desk.refused("{\"a\":1,\"b\":2,\"c\":3,\"a\":4}", 19);
        Desk.refused("{\"a\":1,\"b\":2,\"c\":3,\"c\":4}", 19);
        Desk.refused("{\"a\":1,\"\\u0061\":2}", 7);
        Desk.refused("{\"\\n\":1,\"\\u000a\":2}", 8);
        Desk.refused("{\"/\":1,\"\\/\":2}", 7);
        Desk.refused("{\"\\u00E9\":1,\"\\u00e9\":2}", 12);
        Desk.refused("[{\"x\":{\"a\":1},\"a\":{\"a\":2},\"x\":0}]", 26);
        Desk.taken("{\"a\":{\"a\":{\"a\":1}}}");
        Desk.taken("[{\"a\":1},{\"a\":1}]");
        Desk.taken("{\"b\":{\"a\":1,\"c\":2},\"a\":3,\"c\":4}");
        Desk.taken("{\"a\":1,\"A\":2,\"\":3,\"aa\":4,\" a\":5,\"\\u0000a\":6}");
        // These names have one hash in the class, so their bytes must tell them apart.
        Desk.taken("{\"Aa\":1,\"BB\":2}");
        manyNames();
    }

    private static void manyNames() {
        StringBuilder many = new StringBuilder("{\"\":0");
        String last = "";
        for (int i = 0; many.length() < 4080; i++) {
            last = Integer.toString(i, 36);
            many.append(",\"").append(last).append("\":0");
        }
        int place = many.length() + 1;
        Desk.taken(many + "}");
        Desk.refused(many + ",\"\":1}", place);
        Desk.refused(many + ",\"0\":1}", place);
        Desk.refused(many + ",\"" + last + "\":", place);
    }

    private static void oneDocument() {
        for (String text : new String[] {"null", "false", "true", "0", "\"\"", "[]", "{}"}) {
            Desk.taken(text);
        }
        Desk.refused("", 0);
        Desk.refused(" \t\r\n", 4);
    }

    private static void behindTheDocument() {
        Desk.taken("1 \t\r\n", "1");
        for (String text : new String[] {"null", "false", "true", "0", "12", "\"\"", "[]", "{}"}) {
            for (String behind : new String[] {"[", "]", "{", "}", ",", ":", "\"", "x", "\u0000", "\u000b", "\u00ff"}) {
                Desk.refused(text + behind, text.length());
                Desk.refused(text + " " + behind, text.length() + 1);
            }
            Desk.refused(text + " " + text, text.length() + 1);
        }
    }
}
