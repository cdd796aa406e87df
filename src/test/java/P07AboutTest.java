/** Promise 7: about tells kind, size, depth and number. */
public final class P07AboutTest {
    public static void main(String[] args) {
        told("null", 0, 0, 0, 0);
        told("false", 1, 0, 0, 0);
        told("true", 2, 0, 0, 0);
        numbers();
        strings();
        containers();
        wrongInputs();
        Desk.close();
    }

    private static void told(String text, long kind, long size, long depth, long number) {
        Desk desk = new Desk().read(4, text);
        Desk.due("kind of " + Desk.shown(text), kind, desk.shelf.about(4, 0));
        Desk.due("size of " + Desk.shown(text), size, desk.shelf.about(4, 1));
        Desk.due("depth of " + Desk.shown(text), depth, desk.shelf.about(4, 2));
        Desk.due("number of " + Desk.shown(text), number, desk.shelf.about(4, 3));
    }

    private static void numbers() {
        told("0", 3, 0, 0, 0);
        told("-0", 3, 0, 0, 0);
        told("-1", 3, 0, 0, -1);
        told("1234567890", 3, 0, 0, 1234567890);
        told("4294967296", 3, 0, 0, 4294967296L);
        told("9007199254740991", 3, 0, 0, 9007199254740991L);
        told("-9007199254740991", 3, 0, 0, -9007199254740991L);
    }

    private static void strings() {
        told("\"\"", 4, 0, 0, 0);
        told("\"a\"", 4, 1, 0, 0);
        told("\"12\"", 4, 2, 0, 0);
        told("\"[[{,\"", 4, 4, 0, 0);
        told("\"\\\"\\\\\\/\\b\\f\\n\\r\\t\"", 4, 8, 0, 0);
        told("\"\\u0041\\u0000\\uffff\"", 4, 3, 0, 0);
        told("\"\\ud83d\\ude00\"", 4, 1, 0, 0);
        told("\"x\\ud800\\udc00\\udbff\\udfffy\"", 4, 4, 0, 0);
        told("\"\\ud7ff\\ue000\\u0dc0\\\\udc00\"", 4, 9, 0, 0);
        told("\"\\\\\\\\ud\"", 4, 4, 0, 0);
        told("\"" + "x".repeat(4070) + "\"", 4, 4070, 0, 0);
    }

    private static void containers() {
        told("[]", 5, 0, 1, 0);
        told("{}", 6, 0, 1, 0);
        told("[1]", 5, 1, 1, 0);
        told("[[],[[]],[]]", 5, 3, 3, 0);
        told("[\"[[[\",\"a,b\"]", 5, 2, 1, 0);
        told("{\"a\":1,\"b\":{\"c\":[]}}", 6, 2, 3, 0);
        told("{\"{[,\":\"]}\"}", 6, 1, 1, 0);
        told("{\"\":\":\",\"\\\"\":\"\\\"\"}", 6, 2, 1, 0);
        told("[".repeat(32) + "]".repeat(32), 5, 1, 32, 0);
        told("[" + "1,".repeat(2037) + "1]", 5, 2038, 1, 0);
        told("[" + "1,".repeat(2046) + "11]", 5, 2047, 1, 0);
        told("[[]," + "1,".repeat(2045) + "1]", 5, 2047, 2, 0);
    }

    private static void wrongInputs() {
        Desk desk = new Desk().read(0, "5");
        JsonShelf shelf = desk.shelf;
        for (int i : new int[] {-1, Integer.MIN_VALUE, Integer.MAX_VALUE}) {
            Desk.due("about(0, " + i + ")", "IllegalArgumentException", Desk.outcome(() -> shelf.about(0, i)));
            Desk.due("about(7, " + i + ")", "IllegalArgumentException", Desk.outcome(() -> shelf.about(7, i)));
            Desk.due("about(" + i + ", 0)", "IllegalArgumentException", Desk.outcome(() -> shelf.about(i, 0)));
        }
        Desk.due("about(0, 4)", "IllegalArgumentException", Desk.outcome(() -> shelf.about(0, 4)));
        Desk.due("about(7, 4)", "IllegalArgumentException", Desk.outcome(() -> shelf.about(7, 4)));
        Desk.due("about(8, 0)", "IllegalArgumentException", Desk.outcome(() -> shelf.about(8, 0)));
        for (int i = 0; i < 4; i++) {
            int what = i;
            Desk.due("about(7, " + i + ")", "IllegalStateException", Desk.outcome(() -> shelf.about(7, what)));
        }
    }
}
