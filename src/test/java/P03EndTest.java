/** Promise 3: end. */
public final class P03EndTest {
    public static void main(String[] args) {
        Desk.sentence("The TAPE keeps its first n bytes", P03EndTest::theFirstBytesAreKept);
        Desk.sentence("n 0 .. its length", P03EndTest::fromNoneToAll);
        Desk.sentence("Answers n", P03EndTest::answersN);
        Desk.close();
    }

    private static void theFirstBytesAreKept() {
        Desk desk = new Desk().feed("[1,2]]]]]]");
        desk.shelf.end(5);
        Desk.due("tape after end(5)", 5, desk.shelf.count(0));
        Desk.due("read of the first bytes", 5, desk.shelf.read(0));
        Desk.due("what was read", "[1,2]", desk.printed(0));
        desk.feed("12345");
        desk.shelf.end(0);
        desk.feed("7");
        desk.shelf.read(0);
        Desk.due("bytes that were cut are gone", "7", desk.printed(0));
        desk.feed("1234567");
        desk.shelf.end(3);
        desk.feed("89");
        desk.shelf.read(0);
        Desk.due("what comes then is behind them", "12389", desk.printed(0));
    }

    private static void fromNoneToAll() {
        Desk desk = new Desk().feed("1234567890");
        for (int n : new int[] {-1, 11, 20, 4096, 4097, Integer.MIN_VALUE, Integer.MAX_VALUE}) {
            Desk.thrown("end(" + n + ") of 10", Desk.ARGUMENT, () -> desk.shelf.end(n));
        }
        Desk.due("tape after wrong ends", 10, desk.shelf.count(0));
        Desk.due("end at the length", 10, desk.shelf.end(10));
        Desk.due("end one before it", 9, desk.shelf.end(9));
        Desk.thrown("end(10) of 9", Desk.ARGUMENT, () -> desk.shelf.end(10));
        Desk.due("end(0)", 0, desk.shelf.end(0));
        Desk.thrown("end(1) of none", Desk.ARGUMENT, () -> desk.shelf.end(1));
        Desk.thrown("end(-1) of none", Desk.ARGUMENT, () -> desk.shelf.end(-1));
        Desk.due("end(0) of none", 0, desk.shelf.end(0));
        Desk full = new Desk().feed(" ".repeat(4096));
        Desk.thrown("end(4097) of a full tape", Desk.ARGUMENT, () -> full.shelf.end(4097));
        Desk.due("end(4096) of a full tape", 4096, full.shelf.end(4096));
        Desk.due("end(4095) of it", 4095, full.shelf.end(4095));
        Desk.due("end(0) of it", 0, full.shelf.end(0));
        Desk.due("tape then", 0, full.shelf.count(0));
    }

    private static void answersN() {
        Desk desk = new Desk().feed("x".repeat(100));
        for (int n = 100; n >= 0; n--) {
            Desk.due("end(" + n + ")", n, desk.shelf.end(n));
            Desk.due("tape after it", n, desk.shelf.count(0));
        }
    }
}
