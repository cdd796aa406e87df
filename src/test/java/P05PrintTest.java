/** Promise 5: print. How a value is PRINTED is in T4. */
public final class P05PrintTest {
    public static void main(String[] args) {
        Desk.sentence("THE RESULT is it PRINTED", P05PrintTest::theResultIsIt);
        Desk.sentence("Answers how many bytes", P05PrintTest::bytesAreAnswered);
        Desk.sentence("throws IllegalArgumentException, IllegalStateException", P05PrintTest::wrongInputs);
        Desk.close();
    }

    private static void theResultIsIt() {
        Desk desk = new Desk().read(0, "[1, 2,\"\\u0041\"]").read(1, "7");
        desk.shelf.print(0);
        Desk.due("the result", "[1,2,\"A\"]", desk.result(0, 9));
        desk.read(0, "null");
        Desk.due("the result after another read", "[1,2,\"A\"]", desk.result(0, 9));
        desk.shelf.print(1);
        Desk.due("a shorter one takes its place", 1, desk.shelf.count(1));
        Desk.due("nothing of the longer one is left", 0x37L << 56, desk.shelf.word(0));
        Desk.thrown("nor behind it", Desk.INDEX, () -> desk.shelf.word(1));
        Desk.due("the value stays", "7", desk.printed(1));
        Desk.due("a longer one again", "null", desk.printed(0));
        Desk.taken(Desk.stringOf(4096));
    }

    private static void bytesAreAnswered() {
        for (String text : new String[] {"0", "null", "\"\"", "[]", "{}", "{\"a\":[1,2]}", "\"\\u0001\""}) {
            Desk desk = new Desk().read(0, " " + text);
            Desk.due("print of " + text, text.length(), desk.shelf.print(0));
            Desk.due("bytes of the result", text.length(), desk.shelf.count(1));
        }
    }

    private static void wrongInputs() {
        Desk desk = new Desk().read(0, "12");
        desk.shelf.print(0);
        for (int no : Desk.NO_SLOTS) {
            Desk.thrown("print(" + no + ")", Desk.ARGUMENT, () -> desk.shelf.print(no));
        }
        Desk.thrown("print of an empty slot", Desk.STATE, () -> desk.shelf.print(7));
        Desk.due("result after wrong prints", "12", desk.result(0, desk.shelf.count(1)));
    }
}
