/** Promise 10: count. */
public final class P10CountTest {
    public static void main(String[] args) {
        Desk.sentence("0, 1 bytes of THE TAPE, of THE RESULT", P10CountTest::bytes);
        Desk.sentence("2 PLACE of the latest read", P10CountTest::place);
        Desk.sentence("-1 if it told none", P10CountTest::noPlace);
        Desk.sentence("or before", P10CountTest::before);
        Desk.sentence("what 0 .. 2", P10CountTest::wrongInputs);
        Desk.close();
    }

    private static void bytes() {
        Desk desk = new Desk();
        Desk.due("tape at first", 0, desk.shelf.count(0));
        Desk.due("result at first", 0, desk.shelf.count(1));
        desk.feed("[1 ]");
        Desk.due("tape after a feed", 4, desk.shelf.count(0));
        desk.shelf.read(0);
        Desk.due("tape after a read", 0, desk.shelf.count(0));
        Desk.due("result before a print", 0, desk.shelf.count(1));
        desk.shelf.print(0);
        Desk.due("result after it", 3, desk.shelf.count(1));
        desk.feed("x");
        Desk.due("each on its own, the tape", 1, desk.shelf.count(0));
        Desk.due("each on its own, the result", 3, desk.shelf.count(1));
        Desk full = new Desk().feed(Desk.stringOf(4096));
        Desk.due("a full tape", 4096, full.shelf.count(0));
        full.shelf.read(0);
        full.shelf.print(0);
        Desk.due("all of it in the result", 4096, full.shelf.count(1));
    }

    private static void broken(Desk desk, String text, int place) {
        desk.feed(text);
        Desk.thrown("read of " + Desk.shown(text), Desk.UNSUPPORTED, () -> desk.shelf.read(0));
        Desk.due("PLACE in " + Desk.shown(text), place, desk.shelf.count(2));
    }

    private static void place() {
        Desk desk = new Desk();
        broken(desk, "[1,x]", 3);
        Desk.due("asked again", 3, desk.shelf.count(2));
        broken(desk, "x", 0);
        broken(desk, "", 0);
        broken(desk, "[1", 2);
        // Other calls, and a read that is refused for its slot, leave it as it is.
        desk.feed("[1]");
        Desk.thrown("read of no slot", Desk.ARGUMENT, () -> desk.shelf.read(8));
        Desk.due("PLACE after it", 2, desk.shelf.count(2));
        Desk.due("tape after it", 3, desk.shelf.count(0));
        desk.shelf.end(0);
        Desk.thrown("print of none", Desk.STATE, () -> desk.shelf.print(0));
        Desk.due("PLACE after others", 2, desk.shelf.count(2));
        broken(new Desk(), " ".repeat(4096), 4096);
    }

    private static void noPlace() {
        Desk desk = new Desk();
        broken(desk, "[1,x]", 3);
        desk.read(0, "[1]");
        Desk.due("PLACE after a read that told none", -1, desk.shelf.count(2));
        broken(desk, "]", 0);
        desk.read(1, "2");
        Desk.due("PLACE after another", -1, desk.shelf.count(2));
    }

    private static void before() {
        Desk desk = new Desk();
        Desk.due("PLACE before any read", -1, desk.shelf.count(2));
        desk.feed("]");
        Desk.due("PLACE before a read that is broken", -1, desk.shelf.count(2));
        Desk.thrown("read of no slot", Desk.ARGUMENT, () -> desk.shelf.read(-1));
        Desk.due("PLACE after that", -1, desk.shelf.count(2));
    }

    private static void wrongInputs() {
        Desk desk = new Desk();
        for (int what : new int[] {-1, 3, 4, 256, Integer.MIN_VALUE, Integer.MAX_VALUE}) {
            Desk.thrown("count(" + what + ")", Desk.ARGUMENT, () -> desk.shelf.count(what));
        }
        for (int what = 0; what <= 2; what++) {
            Desk.due("count(" + what + ")", what == 2 ? -1 : 0, desk.shelf.count(what));
        }
    }
}
