/** Promise 6: same. */
public final class P06SameTest {
    public static void main(String[] args) {
        Desk.sentence("Whether two are the same", P06SameTest::eachIsTheSameAsItselfAlone);
        Desk.sentence("NUMBERS by value", P06SameTest::numbers);
        Desk.sentence("STRINGS by UNITS", P06SameTest::strings);
        Desk.sentence("{ } by names in any order", P06SameTest::orderOfNames);
        Desk.sentence("throws IllegalArgumentException, IllegalStateException", P06SameTest::wrongInputs);
        Desk.close();
    }

    private static void compared(String a, String b, boolean same) {
        Desk desk = new Desk().read(1, a);
        desk.read(6, b);
        Desk.due("same " + Desk.shown(a) + " and " + Desk.shown(b), same, desk.shelf.same(1, 6));
        Desk.due("same " + Desk.shown(b) + " and " + Desk.shown(a), same, desk.shelf.same(6, 1));
        Desk.due("same as itself", true, desk.shelf.same(1, 1));
    }

    private static void eachIsTheSameAsItselfAlone() {
        String[] different = {
            "null", "false", "true", "0", "1", "-1", "10", "9007199254740991", "-9007199254740991",
            "\"\"", "\"a\"", "\"A\"", "\"ab\"", "\"null\"", "\"0\"", "\"\\u0000\"", "\"\\\\u0000\"",
            "\"\\ud83d\\ude00\"", "\"\\ud83d\\ude01\"",
            "[]", "{}", "[[]]", "[{}]", "[null]", "[0]", "[1,2]", "[2,1]", "[12]", "[[1],2]", "[1,[2]]",
            "{\"a\":1}", "{\"a\":2}", "{\"b\":1}", "{\"a\":[]}", "{\"a\":1,\"b\":2}", "{\"a\":2,\"b\":1}",
            "{\"a\":1,\"b\":2,\"c\":3}", "[\"a\",1]", "{\"Aa\":1,\"c\":2}", "{\"BB\":1,\"c\":2}",
        };
        for (int i = 0; i < different.length; i++) {
            for (int k = 0; k < different.length; k++) {
                compared(different[i], different[k], i == k);
            }
        }
        compared(" [ 1 , { } ] ", "[1,{}]", true);
        greatValues();
    }

    private static void numbers() {
        compared("-0", "0", true);
        compared("[-0]", "[0]", true);
        compared("9007199254740991", "9007199254740991", true);
        compared("9007199254740991", "9007199254740990", false);
        compared("-9007199254740991", "9007199254740991", false);
        // As ints these would be the same.
        compared("4294967296", "0", false);
        compared("4294967295", "-1", false);
    }

    private static void strings() {
        compared("\"\\u0041\\/\\u000A\"", "\"A/\\n\"", true);
        compared("\"\\uD83D\\uDE00\"", "\"\\ud83d\\ude00\"", true);
        compared("\"\\u0000\"", "\"\"", false);
        compared("\"\\u0100\"", "\"\\u0000\"", false);
        compared("\"\\\\n\"", "\"\\n\"", false);
        compared("\"a\"", "\"a \"", false);
        compared("\"Aa\"", "\"BB\"", false);
        compared("\"\\ud83d\\ude00\"", "\"\\ud83d\\udc00\"", false);
    }

    private static void orderOfNames() {
        compared("{\"a\":1,\"b\":2,\"c\":3}", "{\"c\":3,\"a\":1,\"b\":2}", true);
        compared("{\"a\":1,\"b\":2,\"c\":3}", "{\"c\":3,\"a\":2,\"b\":1}", false);
        compared("{\"a\":1,\"b\":2}", "{\"b\":2,\"c\":1}", false);
        compared("{\"a\":1,\"b\":2}", "{\"b\":2}", false);
        compared("{\"a\":{\"x\":[1,{\"p\":0,\"q\":1}],\"y\":2},\"b\":\"\"}",
            "{\"b\":\"\",\"a\":{\"y\":2,\"x\":[1,{\"q\":1,\"p\":0}]}}", true);
        compared("{\"a\":{\"x\":[1,{\"p\":0,\"q\":1}],\"y\":2},\"b\":\"\"}",
            "{\"b\":\"\",\"a\":{\"y\":2,\"x\":[1,{\"q\":0,\"p\":1}]}}", false);
        compared("{\"Aa\":1,\"BB\":2}", "{\"BB\":2,\"Aa\":1}", true);
        compared("{\"Aa\":1,\"BB\":2}", "{\"BB\":1,\"Aa\":2}", false);
        compared("{\"\\u00e9\":1,\"\":2}", "{\"\":2,\"\\u00E9\":1}", true);
        // The order within [ ] counts.
        compared("[{\"a\":1},{\"b\":2}]", "[{\"b\":2},{\"a\":1}]", false);
    }

    private static void greatValues() {
        String deep = "{\"a\":0,\"b\":".repeat(32) + "7" + "}".repeat(32);
        String turned = "{\"b\":".repeat(32) + "7" + ",\"a\":0}".repeat(32);
        compared(deep, turned, true);
        compared(deep, turned.replace("7", "8"), false);
        StringBuilder up = new StringBuilder();
        StringBuilder down = new StringBuilder();
        for (int i = 0; i < 560; i++) {
            String member = "\"" + Integer.toString(i, 36) + "\":" + i % 10;
            up.append(i == 0 ? "" : ",").append(member);
            down.insert(0, member + (i == 0 ? "" : ","));
        }
        compared("{" + up + "}", "{" + down + "}", true);
        compared("{" + up + "}", "{" + down.toString().replace("\"0\":0", "\"0\":1") + "}", false);
        String ones = "[" + "1,".repeat(2046) + "1]";
        compared(ones, ones, true);
        compared(ones, ones.substring(0, ones.length() - 2) + "2]", false);
        String full = Desk.stringOf(4096);
        compared(full, full, true);
        compared(full, full.substring(0, 4094) + "!\"", false);
    }

    private static void wrongInputs() {
        Desk desk = new Desk().read(0, "1");
        Desk.thrown("same(0, 7)", Desk.STATE, () -> desk.shelf.same(0, 7));
        Desk.thrown("same(7, 0)", Desk.STATE, () -> desk.shelf.same(7, 0));
        Desk.thrown("same(7, 7)", Desk.STATE, () -> desk.shelf.same(7, 7));
        for (int no : Desk.NO_SLOTS) {
            Desk.thrown("same(0, " + no + ")", Desk.ARGUMENT, () -> desk.shelf.same(0, no));
            Desk.thrown("same(7, " + no + ")", Desk.ARGUMENT, () -> desk.shelf.same(7, no));
            Desk.thrown("same(" + no + ", 7)", Desk.ARGUMENT, () -> desk.shelf.same(no, 7));
        }
        Desk.due("nothing changed", "1", desk.printed(0));
    }
}
