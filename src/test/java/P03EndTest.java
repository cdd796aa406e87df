/** Promise 3: end keeps the first n bytes of the TAPE. */
public final class P03EndTest {
    public static void main(String[] args) {
        Desk desk = new Desk().feed("[1,2]]]]]]");
        JsonShelf shelf = desk.shelf;
        Desk.due("end(-1)", "IllegalArgumentException", Desk.outcome(() -> shelf.end(-1)));
        Desk.due("end(11)", "IllegalArgumentException", Desk.outcome(() -> shelf.end(11)));
        Desk.due("end(least)", "IllegalArgumentException", Desk.outcome(() -> shelf.end(Integer.MIN_VALUE)));
        Desk.due("end(greatest)", "IllegalArgumentException", Desk.outcome(() -> shelf.end(Integer.MAX_VALUE)));
        Desk.due("tape after wrong ends", 10, shelf.count(0));
        Desk.due("end at the length", 10, shelf.end(10));
        Desk.due("end(5)", 5, shelf.end(5));
        Desk.due("tape after end(5)", 5, shelf.count(0));
        Desk.due("end(6) after end(5)", "IllegalArgumentException", Desk.outcome(() -> shelf.end(6)));
        Desk.due("the first bytes are kept", 5, shelf.read(0));
        Desk.due("what was read", "[1,2]", desk.printed(0));
        Desk.due("end(0) of an empty tape", 0, shelf.end(0));
        desk.feed("12345");
        Desk.due("end(0)", 0, shelf.end(0));
        desk.feed("7");
        shelf.read(0);
        Desk.due("bytes that were cut are gone", "7", desk.printed(0));
        Desk.close();
    }
}
