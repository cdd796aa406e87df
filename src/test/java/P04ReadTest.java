/** Promise 4: read. Which texts are taken, and where others are refused, is in T2 and T3. */
public final class P04ReadTest {
    public static void main(String[] args) {
        Desk.sentence("slot 0 .. 7 (so for all)", P04ReadTest::slots);
        Desk.sentence("The TAPE is a VALUE, and empty then: the SLOT holds it", P04ReadTest::theSlotHoldsIt);
        Desk.sentence("SYNTAX broken: UnsupportedOperationException, PLACE is told, the TAPE is empty, too",
            P04ReadTest::brokenSyntax);
        Desk.sentence("(The SLOT holds what it held.)", P04ReadTest::whatTheSlotHeld);
        Desk.sentence("Answers how many bytes it has PRINTED", P04ReadTest::bytesAreAnswered);
        Desk.close();
    }

    private static void slots() {
        Desk desk = new Desk();
        for (int slot = 0; slot < 8; slot++) {
            desk.feed(" [ " + slot + " ] ");
            Desk.due("read(" + slot + ")", 3, desk.shelf.read(slot));
        }
        desk.feed("[9]");
        for (int no : Desk.NO_SLOTS) {
            Desk.thrown("read(" + no + ")", Desk.ARGUMENT, () -> desk.shelf.read(no));
            Desk.thrown("print(" + no + ")", Desk.ARGUMENT, () -> desk.shelf.print(no));
            Desk.thrown("same(" + no + ", 0)", Desk.ARGUMENT, () -> desk.shelf.same(no, 0));
            Desk.thrown("same(0, " + no + ")", Desk.ARGUMENT, () -> desk.shelf.same(0, no));
            Desk.thrown("about(" + no + ", 0)", Desk.ARGUMENT, () -> desk.shelf.about(no, 0));
            Desk.thrown("take(" + no + ", 0, 0)", Desk.ARGUMENT, () -> taken(desk, no, 0));
            Desk.thrown("take(0, " + no + ", 0)", Desk.ARGUMENT, () -> taken(desk, 0, no));
        }
        Desk.due("tape after wrong slots", 3, desk.shelf.count(0));
        Desk.due("PLACE after wrong slots", -1, desk.shelf.count(2));
        for (int slot = 0; slot < 8; slot++) {
            Desk.due("slot " + slot, "[" + slot + "]", desk.printed(slot));
        }
    }

    private static Object taken(Desk desk, int to, int from) {
        desk.shelf.take(to, from, 0);
        return "taken";
    }

    private static void theSlotHoldsIt() {
        Desk desk = new Desk().feed(" {\"a\" : [1]} ");
        desk.shelf.read(2);
        Desk.due("tape after it", 0, desk.shelf.count(0));
        Desk.due("the slot", "{\"a\":[1]}", desk.printed(2));
        desk.read(2, "5");
        Desk.due("the slot is filled again", "5", desk.printed(2));
        Desk.due("the kind of it", 3L, desk.shelf.about(2, 0));
        Desk.thrown("read of the empty tape", Desk.UNSUPPORTED, () -> desk.shelf.read(2));
        Desk.due("PLACE in it", 0, desk.shelf.count(2));
        // The tape is empty, not only cut: what comes then begins at 0.
        desk.feed("x");
        Desk.thrown("read of what came then", Desk.UNSUPPORTED, () -> desk.shelf.read(2));
        Desk.due("PLACE in that", 0, desk.shelf.count(2));
    }

    private static void brokenSyntax() {
        Desk desk = new Desk().feed("[1,2");
        Desk.thrown("read of a broken text", Desk.UNSUPPORTED, () -> desk.shelf.read(0));
        Desk.due("PLACE", 4, desk.shelf.count(2));
        Desk.due("tape after it", 0, desk.shelf.count(0));
        // It would be a VALUE if the tape had been kept.
        desk.feed("]");
        Desk.thrown("read of the rest", Desk.UNSUPPORTED, () -> desk.shelf.read(0));
        Desk.due("PLACE in the rest", 0, desk.shelf.count(2));
        Desk.due("read of a whole text", 3, desk.feed("[3]").shelf.read(0));
        // What a broken text leaves behind does not show in the next one.
        for (String broken : new String[] {"[[[[", "{\"a\":1,\"b\":", "{\"a\":{\"b\":", "\"ab", "[".repeat(33), "[12,"}) {
            desk.feed(broken);
            Desk.thrown("read of " + broken, Desk.UNSUPPORTED, () -> desk.shelf.read(0));
            desk.read(0, "{\"a\":1,\"b\":[" + "[".repeat(30) + "]".repeat(30) + "]}");
            Desk.due("read behind it", "{\"a\":1,\"b\":[" + "[".repeat(30) + "]".repeat(30) + "]}", desk.printed(0));
        }
        manyNamesLeftBehind();
    }

    // Two texts, for one alone has not names enough to fill a row that is never emptied.
    private static void manyNamesLeftBehind() {
        StringBuilder many = new StringBuilder("{\"\":0");
        for (int i = 0; many.length() < 4080; i++) {
            many.append(",\"").append(Integer.toString(i, 36)).append("\":0");
        }
        Desk desk = new Desk();
        for (int i = 0; i < 2; i++) {
            desk.feed(many.toString());
            Desk.thrown("read of many names", Desk.UNSUPPORTED, () -> desk.shelf.read(0));
        }
        desk.feed("{\"a\":1,\"a\":2}");
        Desk.thrown("a name that was there, behind them", Desk.UNSUPPORTED, () -> desk.shelf.read(0));
        Desk.due("its PLACE", 7, desk.shelf.count(2));
    }

    private static void whatTheSlotHeld() {
        String[] broken = {"", "[9", "{\"a\":1,\"a\":2}", "9007199254740992", "\"\\ud800\"", "[1] x", "1.5"};
        for (String text : broken) {
            Desk desk = new Desk().read(3, "[7]").feed(text);
            Desk.thrown("read of " + text, Desk.UNSUPPORTED, () -> desk.shelf.read(3));
            Desk.due("the slot after " + text, "[7]", desk.printed(3));
            desk.feed(text);
            Desk.thrown("read of " + text, Desk.UNSUPPORTED, () -> desk.shelf.read(4));
            Desk.thrown("a slot that held none", Desk.STATE, () -> desk.shelf.print(4));
        }
    }

    private static void bytesAreAnswered() {
        String[][] texts = {
            {"0", "1"}, {" -0 ", "1"}, {"-12", "3"}, {" null ", "4"}, {"true", "4"}, {"false", "5"}, {"\"\"", "2"},
            {"\"\\u0041\"", "3"}, {"\"\\/\"", "3"}, {"\"\\u000a\"", "4"}, {"\"\\u0001\"", "8"}, {"\"\\ud83d\\uDE00\"", "14"},
            {"[ ]", "2"}, {"{ }", "2"}, {" [ 1 , 2 ] ", "5"}, {" { \"a\" : 1 } ", "7"},
        };
        for (String[] text : texts) {
            Desk desk = new Desk().feed(text[0]);
            Desk.due("read of " + text[0], Integer.parseInt(text[1]), desk.shelf.read(0));
            Desk.due("print of " + text[0], Integer.parseInt(text[1]), desk.shelf.print(0));
        }
        Desk.due("read of a full tape", 4096, new Desk().feed(Desk.stringOf(4096)).shelf.read(0));
    }
}
