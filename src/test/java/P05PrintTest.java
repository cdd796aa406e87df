/** Promise 5 and PRINTED: print makes THE RESULT of a value. */
public final class P05PrintTest {
    public static void main(String[] args) {
        scalarsAndBlanks();
        charactersOfStrings();
        theResultIsKept();
        wrongInputs();
        Desk.close();
    }

    private static void scalarsAndBlanks() {
        Desk.taken("null", "null");
        Desk.taken(" true\n", "true");
        Desk.taken("\tfalse\r", "false");
        Desk.taken("-0", "0");
        Desk.taken("[-0,0,-1]", "[0,0,-1]");
        Desk.taken("9007199254740991", "9007199254740991");
        Desk.taken("-9007199254740991", "-9007199254740991");
        Desk.taken(" [ 1 , 2 , [ ] , { } ] ", "[1,2,[],{}]");
        Desk.taken("\n{ \"z\" : 1 ,\r\"a\"\t: { \"y\" : null , \"b\" : \"\" } } ", "{\"z\":1,\"a\":{\"y\":null,\"b\":\"\"}}");
    }

    private static void charactersOfStrings() {
        Desk.taken("\"\"", "\"\"");
        for (int unit = 0; unit < 65536; unit += unit < 300 ? 1 : 97) {
            if (unit >= 0xd800 && unit < 0xe000) {
                continue;
            }
            String upper = String.format("\"\\u%04X\"", unit);
            Desk.taken(upper, "\"" + due(unit) + "\"");
        }
        Desk.taken("\"\\\"\\\\\\/\\b\\f\\n\\r\\t\"", "\"\\\"\\\\/\\b\\f\\n\\r\\t\"");
        Desk.taken("\"\\u000B\\u007F\\u007e\\u0020\"", "\"\\u000b\\u007f~ \"");
        Desk.taken("\"\\uD800\\uDC00\\uDBFF\\uDFFF\"", "\"\\ud800\\udc00\\udbff\\udfff\"");
        Desk.taken("{\"\\u0041\\/\":1}", "{\"A/\":1}");
    }

    private static String due(int unit) {
        int sign = "\b\t\n\f\r\"\\".indexOf(unit);
        if (sign >= 0) {
            return "\\" + "btnfr\"\\".charAt(sign);
        }
        return unit < 32 || unit > 126 ? String.format("\\u%04x", unit) : String.valueOf((char) unit);
    }

    private static void theResultIsKept() {
        Desk desk = new Desk().read(0, "[1,2,3]").read(1, "7");
        Desk.due("print", 7, desk.shelf.print(0));
        desk.read(0, "null");
        Desk.due("result after another read", "[1,2,3]", desk.result(7));
        Desk.due("print of a shorter one", 1, desk.shelf.print(1));
        Desk.due("its length", 1, desk.shelf.count(1));
        Desk.due("the value stays", "7", desk.printed(1));
        Desk.due("its word", 0x37L << 56, desk.shelf.word(0));
    }

    private static void wrongInputs() {
        Desk desk = new Desk().read(0, "12");
        desk.shelf.print(0);
        Desk.due("print(-1)", "IllegalArgumentException", Desk.outcome(() -> desk.shelf.print(-1)));
        Desk.due("print(8)", "IllegalArgumentException", Desk.outcome(() -> desk.shelf.print(8)));
        Desk.due("print of an empty slot", "IllegalStateException", Desk.outcome(() -> desk.shelf.print(7)));
        Desk.due("result after wrong prints", "12", desk.result(desk.shelf.count(1)));
    }
}
