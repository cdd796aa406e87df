/** Promise 4, JSON and PLACE: what read takes, and where it refuses. */
public final class P04ReadTest {
    public static void main(String[] args) {
        answersAndSlots();
        signs();
        literals();
        numbers();
        strings();
        unitsOfTwo();
        cutCharacters();
        names();
        depth();
        greatTexts();
        Desk.close();
    }

    private static void answersAndSlots() {
        Desk desk = new Desk();
        for (int slot = 0; slot < 8; slot++) {
            desk.feed(" [ " + slot + " ] ");
            Desk.due("read(" + slot + ")", 3, desk.shelf.read(slot));
        }
        for (int slot = 0; slot < 8; slot++) {
            Desk.due("slot " + slot, "[" + slot + "]", desk.printed(slot));
        }
        desk.read(2, "true");
        Desk.due("a slot is filled again", "true", desk.printed(2));
        desk.feed("[");
        for (int slot : new int[] {-1, 8, Integer.MIN_VALUE, Integer.MAX_VALUE}) {
            Desk.due("read(" + slot + ")", "IllegalArgumentException", Desk.outcome(() -> desk.shelf.read(slot)));
        }
        Desk.due("tape after wrong slots", 1, desk.shelf.count(0));
        Desk.due("place after wrong slots", -1, desk.shelf.count(2));
    }

    private static void signs() {
        Desk.refused("", 0);
        Desk.refused("   ", 3);
        Desk.refused("x", 0);
        Desk.refused(" \u0000", 1);
        Desk.refused("\u000b1", 0);
        Desk.refused("\u00ff", 0);
        Desk.refused("]", 0);
        Desk.refused("}", 0);
        Desk.refused(",", 0);
        Desk.refused("[", 1);
        Desk.refused("[ ", 2);
        Desk.refused("[,1]", 1);
        Desk.refused("[1,]", 3);
        Desk.refused("[1,,2]", 3);
        Desk.refused("[1 2]", 3);
        Desk.refused("[1}", 2);
        Desk.refused("[1:2]", 2);
        Desk.refused("[1", 2);
        Desk.refused("[1, ", 4);
        Desk.refused("[]]", 2);
        Desk.refused("[] []", 3);
        Desk.refused("{", 1);
        Desk.refused("{]", 1);
        Desk.refused("{,}", 1);
        Desk.refused("{1:2}", 1);
        Desk.refused("{\"a\"}", 4);
        Desk.refused("{\"a\"", 4);
        Desk.refused("{\"a\" ", 5);
        Desk.refused("{\"a\":", 5);
        Desk.refused("{\"a\":}", 5);
        Desk.refused("{\"a\"::1}", 5);
        Desk.refused("{\"a\":1", 6);
        Desk.refused("{\"a\":1]", 6);
        Desk.refused("{\"a\":1,", 7);
        Desk.refused("{\"a\":1,}", 7);
        Desk.refused("{\"a\":1 \"b\":2}", 7);
        Desk.refused("{\"a\":1,2}", 7);
        Desk.refused("{\"a\":[1,{\"b\":[}]}]}", 14);
        Desk.refused("1 1", 2);
        Desk.refused("\"a\"\"b\"", 3);
    }

    private static void literals() {
        Desk.refused("n", 1);
        Desk.refused("nulL", 3);
        Desk.refused("nullx", 4);
        Desk.refused("True", 0);
        Desk.refused("trux", 3);
        Desk.refused("truetrue", 4);
        Desk.refused("fals", 4);
        Desk.refused("falze", 3);
        Desk.refused("[t", 2);
        Desk.refused("[fa]", 3);
        Desk.refused("t rue", 1);
        Desk.taken("[true,false,null]", "[true,false,null]");
    }

    private static void numbers() {
        Desk.taken("0", "0");
        Desk.taken("10", "10");
        Desk.taken("-10 ", "-10");
        Desk.refused("-", 1);
        Desk.refused("--1", 1);
        Desk.refused("+1", 0);
        Desk.refused("- 1", 1);
        Desk.refused("[-]", 2);
        Desk.refused("00", 1);
        Desk.refused("-01", 2);
        Desk.refused("[01]", 2);
        Desk.refused("01.5", 1);
        Desk.refused("1x", 1);
        Desk.refused("0x1", 1);
        Desk.refused("1-", 1);
        Desk.refused("0.", 0);
        Desk.refused("-0.5", 0);
        Desk.refused("[12, -3.5]", 5);
        Desk.refused("[1E5]", 1);
        Desk.refused(" 1e", 1);
        Desk.refused("-.5", 1);
        Desk.refused(".5", 0);
        Desk.refused("1 .5", 2);
        Desk.refused("1 e5", 2);
        Desk.refused("9007199254740992", 0);
        Desk.refused("[ -9007199254740992", 2);
        Desk.refused("9007199254740992x", 0);
        Desk.refused("10000000000000000", 0);
        Desk.refused("18446744073709551617", 0);
        Desk.refused("[0,18446744073709551616]", 3);
        Desk.refused("{\"a\":" + "9".repeat(400) + "}", 5);
    }

    private static void strings() {
        for (int b = 0; b < 256; b++) {
            String text = "[\"a" + (char) b + "b\"]";
            if (b == '"') {
                Desk.refused(text, 4);
            } else if (b >= 32 && b < 127 && b != '\\') {
                Desk.taken(text, text);
            } else if (b != '\\') {
                Desk.refused(text, 3);
            }
        }
        for (int b = 0; b < 256; b++) {
            String text = "\"a\\" + (char) b + "\"";
            if ("\"\\/bfnrt".indexOf(b) < 0) {
                Desk.refused(text, 2);
            }
        }
        for (int b = 0; b < 256; b++) {
            boolean hex = "0123456789abcdefABCDEF".indexOf(b) >= 0;
            for (int i = 0; i < 4 && !hex; i++) {
                Desk.refused("\"a\\u" + "0000".substring(0, i) + (char) b + "000\"", 2);
            }
        }
        Desk.refused("\"", 1);
        Desk.refused("\"a", 2);
        Desk.refused("\"\\", 2);
        Desk.refused("\"\\\"", 3);
        Desk.refused("\"\\u", 3);
        Desk.refused("\"\\u1", 4);
        Desk.refused("\"\\u12\"", 1);
        Desk.refused("\"\\u1234", 7);
        Desk.refused("\"\\U0041\"", 1);
        Desk.refused("{\"\\x\":1}", 2);
        Desk.refused("'a'", 0);
    }

    private static void unitsOfTwo() {
        Desk.taken("\"\\ud7ff\\ue000\"", "\"\\ud7ff\\ue000\"");
        Desk.taken("\"\\ud800\\udc00\"", "\"\\ud800\\udc00\"");
        Desk.taken("\"\\udbff\\udfff\"", "\"\\udbff\\udfff\"");
        Desk.refused("\"\\udc00\"", 1);
        Desk.refused("\"\\udfff\"", 1);
        Desk.refused("\"a\\udbff\"", 2);
        Desk.refused("\"\\udc00\\ud800\"", 1);
        Desk.refused("\"\\ud800a\"", 1);
        Desk.refused("\"\\ud800\\n\"", 1);
        Desk.refused("\"\\ud800\\x\"", 1);
        Desk.refused("\"\\ud800\\ue000\"", 1);
        Desk.refused("\"\\ud800\\udbff\"", 1);
        Desk.refused("\"\\ud800\\ud800\\udc00\"", 1);
        Desk.refused("\"\\ud800\\udc00\\udc00\"", 13);
        Desk.refused("\"\\ud800\\udc0g\"", 1);
        Desk.refused("\"\\ud800\\udc\"", 1);
        Desk.refused("\"\\ud800\n", 1);
        Desk.refused("\"\\ud800\u00ff", 1);
        Desk.refused("{\"\\ud800\":1}", 2);
    }

    // A text that ends within a CHARACTER could go on: it is broken at its length.
    private static void cutCharacters() {
        String whole = "\"\\ud83d\\ude00";
        for (int n = 1; n <= whole.length(); n++) {
            Desk.refused(whole.substring(0, n), n);
        }
        Desk.refused("\"\\udc00", 1);
        Desk.refused("\"\\ud83d\\u0041", 1);
        Desk.refused("\"\\ud83d\\n", 1);
    }

    private static void names() {
        Desk.refused("{\"a\":1,\"a\":2}", 7);
        Desk.refused("{\"a\":1,\"a\"", 7);
        Desk.refused("{\"a\":1,\"a\"x", 7);
        Desk.refused("{\"a\":1, \"a\" :x}", 8);
        Desk.refused("{\"a\":1,\"a", 9);
        Desk.refused("{\"\":1,\"b\":2,\"\":3}", 12);
        Desk.refused("{\"a\":1,\"\\u0061\":2}", 7);
        Desk.refused("{\"\\n\":1,\"\\u000a\":2}", 8);
        Desk.refused("{\"/\":1,\"\\/\":2}", 7);
        Desk.refused("{\"\\u00E9\":1,\"\\u00e9\":2}", 12);
        Desk.refused("[{\"x\":{\"a\":1},\"a\":{\"a\":2},\"x\":0}]", 26);
        Desk.taken("{\"a\":{\"a\":{\"a\":1}}}", "{\"a\":{\"a\":{\"a\":1}}}");
        Desk.taken("[{\"a\":1},{\"a\":1}]", "[{\"a\":1},{\"a\":1}]");
        Desk.taken("{\"b\":{\"a\":1,\"c\":2},\"a\":3,\"c\":4}", "{\"b\":{\"a\":1,\"c\":2},\"a\":3,\"c\":4}");
        Desk.taken("{\"a\":1,\"A\":2,\"\":3,\"aa\":4}", "{\"a\":1,\"A\":2,\"\":3,\"aa\":4}");
        // These names have one hash in the class, so their bytes must tell them apart.
        Desk.taken("{\"Aa\":1,\"BB\":2}", "{\"Aa\":1,\"BB\":2}");
    }

    private static void depth() {
        String arrays = "[".repeat(32) + "]".repeat(32);
        Desk.taken(arrays, arrays);
        Desk.refused("[".repeat(33) + "]".repeat(33), 32);
        Desk.refused("[".repeat(32) + "{}" + "]".repeat(32), 32);
        Desk.refused("[".repeat(32), 32);
        Desk.refused(" [".repeat(40), 65);
        String objects = "{\"a\":".repeat(31) + "{}" + "}".repeat(31);
        Desk.taken(objects, objects);
        Desk.refused("{\"a\":".repeat(32) + "[", 160);
        String beside = "[" + "[".repeat(31) + "]".repeat(31) + "," + "[".repeat(31) + "]".repeat(31) + "]";
        Desk.taken(beside, beside);
    }

    private static void greatTexts() {
        String ones = "[" + "1,".repeat(2046) + "1]";
        Desk.taken(ones + " ", ones);
        Desk.refused("[" + "1,".repeat(2047) + "1", 4096);
        String units = "[\"" + "\\u0001".repeat(682) + "\"";
        Desk.refused(units + "x", units.length());
        Desk.taken(" ".repeat(4095) + "7", "7");
        Desk.refused(" ".repeat(4096), 4096);
        StringBuilder many = new StringBuilder("{\"\":0");
        String last = "";
        for (int i = 0; many.length() < 4080; i++) {
            last = Integer.toString(i, 36);
            many.append(",\"").append(last).append("\":0");
        }
        int place = many.length() + 1;
        Desk.taken(many + "}", many + "}");
        Desk.refused(many + ",\"0\":1}", place);
        Desk.refused(many + ",\"" + last + "\":", place);
    }
}
