/** Promise 7: about. */
public final class P07AboutTest {
    public static void main(String[] args) {
        Desk.sentence("what 0: 0 null, 1 false, 2 true, 3 NUMBER, 4 STRING, 5 [ ], 6 { }", P07AboutTest::kinds);
        Desk.sentence("1: how many are in [ ] or { }", P07AboutTest::sizes);
        Desk.sentence("CHARACTERS in a STRING", P07AboutTest::characters);
        Desk.sentence("(else 0)", P07AboutTest::noSizes);
        Desk.sentence("2: how many [ and { are one within another; (0 for others, 1 for [ ] alone;)", P07AboutTest::depths);
        Desk.sentence("3: a NUMBER (else 0)", P07AboutTest::numbers);
        Desk.sentence("throws IllegalArgumentException, IllegalStateException", P07AboutTest::wrongInputs);
        Desk.close();
    }

    private static void told(String text, int what, long due) {
        Desk.due("about " + Desk.shown(text) + ", " + what, due, new Desk().read(4, text).shelf.about(4, what));
    }

    private static void kinds() {
        String[][] texts = {
            {"null"}, {"false"}, {"true"}, {"0", "-0", "7", "-7", "9007199254740991"}, {"\"\"", "\"null\"", "\"[]\""},
            {"[]", "[{}]", "[1]"}, {"{}", "{\"a\":[]}"},
        };
        for (int kind = 0; kind < texts.length; kind++) {
            for (String text : texts[kind]) {
                told(text, 0, kind);
                told(" " + text + " ", 0, kind);
            }
        }
    }

    private static void sizes() {
        told("[]", 1, 0);
        told("{}", 1, 0);
        told("[1]", 1, 1);
        told("[[]]", 1, 1);
        told("[[1,2,3]]", 1, 1);
        told("[[],[[]],[]]", 1, 3);
        told("[\"[[[\",\"a,b\"]", 1, 2);
        told("{\"a\":1,\"b\":{\"c\":[]}}", 1, 2);
        told("{\"{[,\":\"]}\"}", 1, 1);
        told("{\"\":\":\",\"\\\"\":\"\\\"\"}", 1, 2);
        told("[" + "1,".repeat(2046) + "1]", 1, 2047);
        told("[[]," + "1,".repeat(2045) + "1]", 1, 2047);
        StringBuilder names = new StringBuilder("{\"\":0");
        for (int i = 0; i < 580; i++) {
            names.append(",\"").append(Integer.toString(i, 36)).append("\":1");
        }
        told(names + "}", 1, 581);
    }

    private static void characters() {
        told("\"\"", 1, 0);
        told("\"a\"", 1, 1);
        told("\"12\"", 1, 2);
        told("\"[[{,\"", 1, 4);
        told("\"\\\"\\\\\\/\\b\\f\\n\\r\\t\"", 1, 8);
        told("\"\\u0041\\u0000\\uffff\"", 1, 3);
        told("\"\\ud83d\\ude00\"", 1, 1);
        told("\"x\\ud800\\udc00\\udbff\\udfffy\"", 1, 4);
        told("\"\\ud7ff\\ue000\\u0dc0\\\\udc00\"", 1, 9);
        told("\"\\\\\\\\ud\"", 1, 4);
        told(Desk.stringOf(4096), 1, 4094);
        told("\"" + "\\ud83d\\ude00".repeat(341) + "\"", 1, 341);
    }

    private static void noSizes() {
        for (String text : new String[] {"null", "false", "true", "0", "-12", "9007199254740991"}) {
            told(text, 1, 0);
        }
    }

    private static void depths() {
        for (String text : new String[] {"null", "false", "true", "0", "-12", "\"\"", "\"[[[{\""}) {
            told(text, 2, 0);
        }
        told("[]", 2, 1);
        told("{}", 2, 1);
        told("[1,2,3]", 2, 1);
        told("[\"[[\"]", 2, 1);
        told("{\"[{\":1}", 2, 1);
        told("[[]]", 2, 2);
        told("[[],{}]", 2, 2);
        told("[[[]],[],1]", 2, 3);
        told("[1,[],[[]]]", 2, 3);
        told("{\"a\":1,\"b\":{\"c\":[]}}", 2, 3);
        told("[".repeat(31) + "]".repeat(31), 2, 31);
        told("[".repeat(32) + "]".repeat(32), 2, 32);
        told("{\"a\":".repeat(31) + "{}" + "}".repeat(31), 2, 32);
    }

    private static void numbers() {
        told("0", 3, 0);
        told("-0", 3, 0);
        told("1", 3, 1);
        told("-1", 3, -1);
        told("1234567890", 3, 1234567890);
        told("2147483648", 3, 2147483648L);
        told("-2147483649", 3, -2147483649L);
        told("4294967296", 3, 4294967296L);
        told("9007199254740991", 3, 9007199254740991L);
        told("-9007199254740991", 3, -9007199254740991L);
        for (String text : new String[] {"null", "false", "true", "\"\"", "\"12\"", "[]", "[12]", "{}", "{\"1\":2}"}) {
            told(text, 3, 0);
        }
    }

    private static void wrongInputs() {
        Desk desk = new Desk().read(0, "5");
        for (int what : new int[] {-1, 4, 8, Integer.MIN_VALUE, Integer.MAX_VALUE}) {
            Desk.thrown("about(0, " + what + ")", Desk.ARGUMENT, () -> desk.shelf.about(0, what));
            Desk.thrown("about(7, " + what + ")", Desk.ARGUMENT, () -> desk.shelf.about(7, what));
        }
        for (int no : Desk.NO_SLOTS) {
            Desk.thrown("about(" + no + ", 0)", Desk.ARGUMENT, () -> desk.shelf.about(no, 0));
            Desk.thrown("about(" + no + ", 3)", Desk.ARGUMENT, () -> desk.shelf.about(no, 3));
        }
        for (int i = 0; i < 4; i++) {
            int what = i;
            Desk.thrown("about(7, " + i + ")", Desk.STATE, () -> desk.shelf.about(7, what));
        }
        Desk.due("nothing changed", "5", desk.printed(0));
    }
}
