/** Promise 1: A new object. */
public final class P01NewObjectTest {
    public static void main(String[] args) {
        Desk.sentence("THE TAPE [..] empty", P01NewObjectTest::theTape);
        Desk.sentence("THE RESULT [..] empty", P01NewObjectTest::theResult);
        Desk.sentence("all SLOTS are empty", P01NewObjectTest::theSlots);
        Desk.sentence("A new object", P01NewObjectTest::objectsAreApart);
        Desk.close();
    }

    private static void theTape() {
        Desk desk = new Desk();
        Desk.due("bytes of the tape", 0, desk.shelf.count(0));
        Desk.thrown("end(1)", Desk.ARGUMENT, () -> desk.shelf.end(1));
        Desk.due("end(0)", 0, desk.shelf.end(0));
        Desk.thrown("read of it", Desk.UNSUPPORTED, () -> desk.shelf.read(0));
        Desk.due("its PLACE", 0, desk.shelf.count(2));
        Desk.due("first feed", 20, new Desk().shelf.feed(0, 0, 0, 0, 0));
    }

    private static void theResult() {
        Desk desk = new Desk();
        Desk.due("bytes of the result", 0, desk.shelf.count(1));
        for (int i : new int[] {0, 1, 8}) {
            Desk.thrown("word(" + i + ")", Desk.INDEX, () -> desk.shelf.word(i));
        }
    }

    private static void theSlots() {
        Desk desk = new Desk();
        for (int i = 0; i < 8; i++) {
            int slot = i;
            Desk.thrown("print of slot " + i, Desk.STATE, () -> desk.shelf.print(slot));
            Desk.thrown("about slot " + i, Desk.STATE, () -> desk.shelf.about(slot, 0));
            Desk.thrown("same of slot " + i, Desk.STATE, () -> desk.shelf.same(slot, 7 - slot));
            Desk.thrown("take from slot " + i, Desk.STATE, () -> {
                desk.shelf.take(0, slot, 0);
                return "taken";
            });
        }
    }

    private static void objectsAreApart() {
        Desk first = new Desk().read(0, "[1]").feed("abc");
        first.shelf.print(0);
        Desk second = new Desk();
        Desk.due("tape of another object", 0, second.shelf.count(0));
        Desk.due("result of another object", 0, second.shelf.count(1));
        Desk.due("PLACE of another object", -1, second.shelf.count(2));
        Desk.thrown("slot of another object", Desk.STATE, () -> second.shelf.print(0));
        second.read(0, "22");
        Desk.due("the first keeps its value", "[1]", first.printed(0));
    }
}
