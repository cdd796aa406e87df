/** Promise 2: feed puts 20 bytes on the TAPE, up to 4096. */
public final class P02FeedTest {
    public static void main(String[] args) {
        theHighestByteComesFirst();
        lengthIsAnswered();
        theTapeHasALimit();
        theTapeCanBeFull();
        Desk.close();
    }

    private static void theHighestByteComesFirst() {
        Desk desk = new Desk();
        desk.shelf.feed(0x22414243, 0x44454647, 0x48494a4b, 0x4c4d4e4f, 0x50515222);
        Desk.due("read of twenty bytes", 20, desk.shelf.read(0));
        Desk.due("the string of them", "\"ABCDEFGHIJKLMNOPQR\"", desk.printed(0));
    }

    private static void lengthIsAnswered() {
        JsonShelf shelf = new JsonShelf();
        Desk.due("first feed", 20, shelf.feed(-1, -1, -1, -1, -1));
        Desk.due("second feed", 40, shelf.feed(0, 0, 0, 0, 0));
        shelf.end(3);
        Desk.due("feed behind 3 bytes", 23, shelf.feed(0, 0, 0, 0, 0));
        Desk.due("count after it", 23, shelf.count(0));
    }

    private static void theTapeHasALimit() {
        JsonShelf shelf = new JsonShelf();
        for (int i = 1; i <= 204; i++) {
            Desk.due("feed " + i, 20 * i, shelf.feed(0x20202020, 0x20202020, 0x20202020, 0x20202020, 0x20202020));
        }
        Desk.due("feed to 4100 bytes", "IndexOutOfBoundsException", Desk.outcome(() -> shelf.feed(1, 2, 3, 4, 5)));
        Desk.due("tape after it", 4080, shelf.count(0));
        Desk.due("read of blanks alone", "UnsupportedOperationException", Desk.outcome(() -> shelf.read(0)));
        Desk.due("place in blanks alone", 4080, shelf.count(2));
        Desk.due("feed after a read", 20, shelf.feed(0, 0, 0, 0, 0));
    }

    private static void theTapeCanBeFull() {
        Desk desk = new Desk();
        String text = "\"" + "x".repeat(4094) + "\"";
        desk.feed(text);
        Desk.due("a full tape", 4096, desk.shelf.count(0));
        Desk.due("feed to a full tape", "IndexOutOfBoundsException", Desk.outcome(() -> desk.shelf.feed(0, 0, 0, 0, 0)));
        Desk.due("read of a full tape", 4096, desk.shelf.read(7));
        Desk.due("what was read", text, desk.printed(7));
        for (int n = 4077; n <= 4080; n++) {
            Desk near = new Desk().feed(" ".repeat(n));
            Desk.due("feed behind " + n, "IndexOutOfBoundsException", Desk.outcome(() -> near.shelf.feed(0, 0, 0, 0, 0)));
        }
        Desk fits = new Desk().feed(" ".repeat(4076));
        Desk.due("feed behind 4076", 4096, fits.shelf.feed(0, 0, 0, 0, 0));
    }
}
