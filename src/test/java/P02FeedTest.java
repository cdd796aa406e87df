/** Promise 2: feed. */
public final class P02FeedTest {
    public static void main(String[] args) {
        Desk.sentence("The 20 bytes of five ints, the highest of each first, come to the TAPE",
            P02FeedTest::theHighestByteComesFirst);
        Desk.sentence("it would have more than 4096: IndexOutOfBoundsException", P02FeedTest::theTapeHasALimit);
        Desk.sentence("Answers its length", P02FeedTest::lengthIsAnswered);
        Desk.close();
    }

    private static void theHighestByteComesFirst() {
        Desk desk = new Desk();
        desk.shelf.feed(0x22414243, 0x44454647, 0x48494a4b, 0x4c4d4e4f, 0x50515222);
        Desk.due("read of twenty bytes", 20, desk.shelf.read(0));
        Desk.due("the string of them", "\"ABCDEFGHIJKLMNOPQR\"", desk.printed(0));
        // Bytes above 127 and ints below 0 are bytes like others: they come one by one.
        for (int i = 0; i < 20; i++) {
            int[] ints = {0x20202020, 0x20202020, 0x20202020, 0x20202020, 0x20202020};
            ints[i / 4] ^= (0x20 ^ 0xff) << 24 - i % 4 * 8;
            desk.shelf.feed(ints[0], ints[1], ints[2], ints[3], ints[4]);
            Desk.thrown("byte 255 at " + i, Desk.UNSUPPORTED, () -> desk.shelf.read(0));
            Desk.due("its PLACE", i, desk.shelf.count(2));
        }
        for (int i : new int[] {0, -1, Integer.MIN_VALUE, Integer.MAX_VALUE}) {
            Desk.due("five times " + i, 20, desk.shelf.feed(i, i, i, i, i));
            desk.shelf.end(0);
        }
    }

    private static void theTapeHasALimit() {
        Desk desk = new Desk();
        for (int i = 1; i <= 204; i++) {
            Desk.due("feed " + i, 20 * i, desk.shelf.feed(0x20202020, 0x20202020, 0x20202020, 0x20202020, 0x20202020));
        }
        Desk.thrown("feed to 4100 bytes", Desk.INDEX, () -> desk.shelf.feed(1, 2, 3, 4, 5));
        Desk.due("tape after it", 4080, desk.shelf.count(0));
        Desk.thrown("once more", Desk.INDEX, () -> desk.shelf.feed(0, 0, 0, 0, 0));
        Desk.thrown("read of blanks alone", Desk.UNSUPPORTED, () -> desk.shelf.read(0));
        Desk.due("no byte of the refused feed is there", 4080, desk.shelf.count(2));
        Desk.due("feed behind a read", 20, desk.shelf.feed(0, 0, 0, 0, 0));
        for (int n = 4077; n <= 4096; n++) {
            Desk near = new Desk().feed(" ".repeat(n));
            Desk.thrown("feed behind " + n, Desk.INDEX, () -> near.shelf.feed(0, 0, 0, 0, 0));
            Desk.due("tape after it", n, near.shelf.count(0));
        }
        Desk.due("feed behind 4076", 4096, new Desk().feed(" ".repeat(4076)).shelf.feed(0, 0, 0, 0, 0));
        Desk.due("feed behind 4075", 4095, new Desk().feed(" ".repeat(4075)).shelf.feed(0, 0, 0, 0, 0));
        Desk cut = new Desk().feed(" ".repeat(4096));
        cut.shelf.end(4076);
        Desk.due("feed to a full tape that was cut", 4096, cut.shelf.feed(0, 0, 0, 0, 0));
    }

    private static void lengthIsAnswered() {
        Desk desk = new Desk();
        Desk.due("first feed", 20, desk.shelf.feed(-1, -1, -1, -1, -1));
        Desk.due("second feed", 40, desk.shelf.feed(0, 0, 0, 0, 0));
        desk.shelf.end(3);
        Desk.due("feed behind 3 bytes", 23, desk.shelf.feed(0, 0, 0, 0, 0));
        Desk.due("count after it", 23, desk.shelf.count(0));
        desk.shelf.end(0);
        Desk.due("feed behind none", 20, desk.shelf.feed(0, 0, 0, 0, 0));
    }
}
