/** "SYNTAX is broken at the PLACE ..": where a text is refused. */
public final class T3PlaceTest {
    // Every sign, word and sort of CHARACTER; no part of it from its start is a VALUE.
    private static final String WHOLE =
        "{\"ab\":[null,true,false,-120,0,\"x\\n\\/\\u00e9\\ud83d\\ude00\"],\"\":{\"c\" : [ ]}}";

    public static void main(String[] args) {
        Desk.sentence("the PLACE (from 0) of the first byte with which it can't go on", T3PlaceTest::firstByte);
        Desk.sentence("(its length at the end)", T3PlaceTest::lengthAtTheEnd);
        Desk.sentence("in a NUMBER too great the first one of it", T3PlaceTest::numbersTooGreat);
        Desk.sentence("likewise where . e E is behind it", T3PlaceTest::fractions);
        Desk.sentence("of a CHARACTER that is none its first one", T3PlaceTest::noCharacters);
        Desk.sentence("(of two UNITS the first, if what is behind it does not fit)", T3PlaceTest::twoUnits);
        Desk.sentence("for a name that was there the \" of it", T3PlaceTest::namesThatWereThere);
        Desk.close();
    }

    // A byte that fits nowhere: only within a CHARACTER of several bytes is another place told.
    private static void firstByte() {
        Desk.taken(WHOLE, WHOLE.replace("\\/", "/").replace(" ", ""));
        for (int i = 0; i < WHOLE.length(); i++) {
            Desk.refused(WHOLE.substring(0, i) + "\u0001" + WHOLE.substring(i + 1), startOfCharacter(i));
        }
        Desk.refused("x", 0);
        Desk.refused(" \n x", 3);
        Desk.refused("[1,2,,3,,4]", 5);
        Desk.refused("[1}]", 2);
        Desk.refused("[[1,2,3}", 7);
        Desk.refused("{\"a\":[1,{\"b\":[}]}]}", 14);
        Desk.refused("[01]", 2);
        Desk.refused("-x", 1);
        Desk.refused("[nul,]", 4);
        Desk.refused("[".repeat(33), 32);
        Desk.refused(" [".repeat(40), 65);
        Desk.refused(" ".repeat(4095) + "x", 4095);
        // Which of two breaks comes first is told.
        Desk.refused("[x,9007199254740992]", 1);
        Desk.refused("{\"a\":x,\"a\":1}", 5);
    }

    private static int startOfCharacter(int i) {
        for (String several : new String[] {"\\n", "\\/", "\\u00e9", "\\ud83d\\ude00"}) {
            int start = WHOLE.indexOf(several);
            if (i >= start && i < start + several.length()) {
                return start;
            }
        }
        return i;
    }

    private static void lengthAtTheEnd() {
        for (int n = 0; n < WHOLE.length(); n++) {
            Desk.refused(WHOLE.substring(0, n), n);
        }
        Desk.refused("   ", 3);
        Desk.refused("[1 ", 3);
        Desk.refused("{\"a\" ", 5);
        Desk.refused("-", 1);
        Desk.refused("\"", 1);
        Desk.refused("\"\\", 2);
        Desk.refused("\"\\u", 3);
        Desk.refused("\"\\u123", 6);
        Desk.refused("\"\\u1234", 7);
        Desk.refused("\"\\ud83d", 7);
        Desk.refused("\"\\ud83d\\ude0", 12);
        Desk.refused("{\"a\":1,\"a", 9);
        Desk.refused("[".repeat(32), 32);
        Desk.refused("[" + "1,".repeat(2047) + "1", 4096);
        Desk.refused("\"" + "x".repeat(4095), 4096);
    }

    private static void numbersTooGreat() {
        Desk.refused("9007199254740992", 0);
        Desk.refused("-9007199254740992", 0);
        Desk.refused(" \n9007199254740992 ", 2);
        Desk.refused("[ -9007199254740992", 2);
        Desk.refused("[0,-18446744073709551616]", 3);
        Desk.refused("{\"a\":" + "9".repeat(400) + "}", 5);
        Desk.refused("9007199254740992x", 0);
        Desk.refused("[9007199254740992", 1);
        Desk.refused("[1,9007199254740992}", 3);
        Desk.refused("1" + "0".repeat(4095), 0);
    }

    private static void fractions() {
        Desk.refused("1.5", 0);
        Desk.refused("-1.5", 0);
        Desk.refused("  12e3", 2);
        Desk.refused("[12, -3E+5]", 5);
        Desk.refused("{\"a\":-0.0}", 5);
        Desk.refused("1.", 0);
        Desk.refused("[1.]", 1);
        Desk.refused("9007199254740992.5", 0);
        // What is no NUMBER, or not right behind one, is a byte with which it can't go on.
        Desk.refused("-.5", 1);
        Desk.refused("-e5", 1);
        Desk.refused(".5", 0);
        Desk.refused("01.5", 1);
        Desk.refused("1 .5", 2);
        Desk.refused("1 e5", 2);
        Desk.refused("true.", 4);
        Desk.refused("[].", 2);
    }

    private static void noCharacters() {
        Desk.refused("\"ab\u0000\"", 3);
        Desk.refused("\"ab\u001f\"", 3);
        Desk.refused("\"ab\u007f\"", 3);
        Desk.refused("\"ab\u00c3\u00a9\"", 3);
        Desk.refused("\"ab\\x\"", 3);
        Desk.refused("\"ab\\ \"", 3);
        Desk.refused("\"ab\\\n", 3);
        Desk.refused("\"ab\\u\"", 3);
        Desk.refused("\"ab\\u1\"", 3);
        Desk.refused("\"ab\\u12\"", 3);
        Desk.refused("\"ab\\u123\"", 3);
        Desk.refused("\"ab\\u123g\"", 3);
        Desk.refused("\"ab\\u-123\"", 3);
        Desk.refused("\"ab\\u+123\"", 3);
        Desk.refused("\"ab\\udc00\"", 3);
        Desk.refused("\"ab\\udfff", 3);
        Desk.refused("\"\\n\\n\\x\"", 5);
        Desk.refused("{\"ab\\x\":1}", 4);
        Desk.refused("[1,\"\\u00e9\\u00g9\"]", 10);
        Desk.refused("\"" + "x".repeat(4093) + "\\x", 4094);
    }

    private static void twoUnits() {
        String[] behind = {"\"", "a\"", "\u0000", "\u00ff", "\\n\"", "\\\"\"", "\\x\"", "\\u\"", "\\u0041\"", "\\ud7ff\"",
            "\\ue000\"", "\\udbff\"", "\\ud83d\\ude00\"", "\\udc0g\"", "\\udc\"", "\\u0041", "\\n", "\\x", "\\Udc00\""};
        for (String text : behind) {
            Desk.refused("\"\\ud83d" + text, 1);
            Desk.refused("[\"ab\\udbff" + text, 4);
        }
        Desk.refused("{\"\\ud800\":1}", 2);
        Desk.refused("\"\\ud800\\udc00\\ud800\"", 13);
        Desk.refused("\"\\ud800\\udc00\\udc00\"", 13);
    }

    private static void namesThatWereThere() {
        Desk.refused("{\"a\":1,\"a\":2}", 7);
        Desk.refused("{ \"a\" : 1 , \"a\" : 2 }", 12);
        Desk.refused("[[{\"b\":{},\"a\":1,\"c\":[],\"a\":2}]]", 23);
        Desk.refused("{\"abc\":1,\"\\u0061b\\u0063\":2}", 9);
        Desk.refused("{\"\":1,\"\":2}", 6);
        // The name is whole with its second ", whatever is behind it.
        Desk.refused("{\"a\":1,\"a\"", 7);
        Desk.refused("{\"a\":1,\"a\"x", 7);
        Desk.refused("{\"a\":1, \"a\" :x}", 8);
        Desk.refused("{\"a\":1,\"a\":9007199254740992}", 7);
        Desk.refused("{\"a\":1,\"a\\x\":2}", 9);
    }
}
