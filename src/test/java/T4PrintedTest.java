/** "PRINTED" of "Terms": the bytes that a value is shown with. */
public final class T4PrintedTest {
    public static void main(String[] args) {
        Desk.sentence("no blanks", T4PrintedTest::noBlanks);
        Desk.sentence("names in their order", T4PrintedTest::orderOfNames);
        Desk.sentence("NUMBERS as short as can be", T4PrintedTest::shortNumbers);
        Desk.sentence("in STRINGS \" and \\ with \\ before", T4PrintedTest::backslashBefore);
        Desk.sentence("8 9 10 12 13 as \\b \\t \\n \\f \\r", T4PrintedTest::fiveLetters);
        Desk.sentence("other UNITS below 32 and above 126 as \\u and four of 0 .. 9 a .. f", T4PrintedTest::otherUnits);
        Desk.close();
    }

    private static void noBlanks() {
        Desk.taken(" true\n", "true");
        Desk.taken(" [ 1 , 2 , [ ] , { } ] ", "[1,2,[],{}]");
        Desk.taken("\t{ \"a\" : 1 ,\r\n\"b\"\t: \"\" } ", "{\"a\":1,\"b\":\"\"}");
        Desk.taken("[ \" a \" ]", "[\" a \"]");
        Desk.taken("{ \" \" : \"  \" }", "{\" \":\"  \"}");
        Desk.taken(" ".repeat(2000) + "[" + " ".repeat(2000) + "]", "[]");
    }

    private static void orderOfNames() {
        Desk.taken("{\"z\":1,\"a\":2,\"m\":{\"y\":3,\"b\":4,\"\":5},\"A\":6}");
        Desk.taken("{\"b\":1,\"a\":{\"b\":2,\"a\":3}}");
        Desk.taken("{\"2\":1,\"10\":2,\"1\":3}");
    }

    private static void shortNumbers() {
        Desk.taken("-0", "0");
        Desk.taken("[ -0 ,0]", "[0,0]");
        Desk.taken("{\"a\":-0}", "{\"a\":0}");
        for (String number : new String[] {"0", "1", "-1", "10", "-10", "9007199254740991", "-9007199254740991"}) {
            Desk.taken(number);
            Desk.taken(" [ " + number + " ] ", "[" + number + "]");
        }
    }

    private static void backslashBefore() {
        Desk.taken("\"\\\"\"");
        Desk.taken("\"\\\\\"");
        Desk.taken("\"\\u0022\\u005C\\u005c\"", "\"\\\"\\\\\\\\\"");
        Desk.taken("\"\\\\u0041\"");
        Desk.taken("{\"\\u0022\":\"\\\\\"}", "{\"\\\"\":\"\\\\\"}");
        // No other has one.
        Desk.taken("\"\\/\\u002f\\u0027\"", "\"//'\"");
    }

    private static void fiveLetters() {
        Desk.taken("\"\\b\\t\\n\\f\\r\"");
        Desk.taken("\"\\u0008\\u0009\\u000a\\u000c\\u000d\"", "\"\\b\\t\\n\\f\\r\"");
        Desk.taken("\"\\u000A\\u000C\\u000D\"", "\"\\n\\f\\r\"");
        Desk.taken("{\"\\u0009\":\"\\u000D\"}", "{\"\\t\":\"\\r\"}");
    }

    // Every UNIT is looked at, 600 of them in one text; two that are one CHARACTER behind them.
    private static void otherUnits() {
        Desk.taken("\"\\u0007\\u000B\\u000E\\u001F\\u0020\"", "\"\\u0007\\u000b\\u000e\\u001f \"");
        Desk.taken("\"\\u007D\\u007E\\u007F\\u0080\\u00FF\"", "\"}~\\u007f\\u0080\\u00ff\"");
        for (int from = 0; from < 65536; from += 600) {
            StringBuilder text = new StringBuilder("\"");
            StringBuilder printed = new StringBuilder("\"");
            for (int unit = from; unit < 65536 && unit < from + 600; unit++) {
                if (unit < 55296 || unit > 57343) {
                    text.append(String.format("\\u%04X", unit));
                    printed.append(due(unit));
                }
            }
            Desk.taken(text.append("\"").toString(), printed.append("\"").toString());
        }
        for (int i = 0; i < 1024; i += 31) {
            String two = String.format("\"\\u%04X\\u%04X\"", 55296 + i, 57343 - i);
            Desk.taken(two, two.toLowerCase());
        }
    }

    private static String due(int unit) {
        int sign = "\b\t\n\f\r\"\\".indexOf(unit);
        if (sign >= 0) {
            return "\\" + "btnfr\"\\".charAt(sign);
        }
        return unit < 32 || unit > 126 ? String.format("\\u%04x", unit) : String.valueOf((char) unit);
    }
}
