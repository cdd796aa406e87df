/** Promise 1: THE TAPE, THE RESULT and all SLOTS of a new object are empty. */
public final class P01NewObjectTest {
    public static void main(String[] args) {
        JsonShelf shelf = new JsonShelf();
        Desk.due("bytes of the tape", 0, shelf.count(0));
        Desk.due("bytes of the result", 0, shelf.count(1));
        Desk.due("place before any read", -1, shelf.count(2));
        Desk.due("word(0)", "IndexOutOfBoundsException", Desk.outcome(() -> shelf.word(0)));
        Desk.due("end(1)", "IllegalArgumentException", Desk.outcome(() -> shelf.end(1)));
        for (int i = 0; i < 8; i++) {
            int slot = i;
            Desk.due("print of slot " + i, "IllegalStateException", Desk.outcome(() -> shelf.print(slot)));
            Desk.due("about of slot " + i, "IllegalStateException", Desk.outcome(() -> shelf.about(slot, 0)));
        }
        objectsAreApart();
        Desk.close();
    }

    private static void objectsAreApart() {
        Desk first = new Desk().read(0, "[1]").feed("abc");
        first.shelf.print(0);
        Desk second = new Desk();
        Desk.due("tape of another object", 0, second.shelf.count(0));
        Desk.due("result of another object", 0, second.shelf.count(1));
        Desk.due("slot of another object", "IllegalStateException", Desk.outcome(() -> second.shelf.print(0)));
    }
}
