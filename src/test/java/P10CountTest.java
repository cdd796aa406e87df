/** Promise 10: count tells the lengths and the PLACE of the latest read. */
public final class P10CountTest {
    public static void main(String[] args) {
        Desk desk = new Desk();
        JsonShelf shelf = desk.shelf;
        Desk.due("place before any read", -1, shelf.count(2));
        desk.feed("[1,x]");
        Desk.due("tape", 5, shelf.count(0));
        Desk.due("broken read", "UnsupportedOperationException", Desk.outcome(() -> shelf.read(0)));
        Desk.due("tape after it", 0, shelf.count(0));
        Desk.due("place after it", 3, shelf.count(2));
        desk.feed("[1]");
        Desk.due("read of no slot", "IllegalArgumentException", Desk.outcome(() -> shelf.read(8)));
        Desk.due("place stays", 3, shelf.count(2));
        Desk.due("tape stays", 3, shelf.count(0));
        shelf.read(0);
        Desk.due("place after a good read", -1, shelf.count(2));
        Desk.due("result before a print", 0, shelf.count(1));
        shelf.print(0);
        Desk.due("result after it", 3, shelf.count(1));
        Desk.due("read of an empty tape", "UnsupportedOperationException", Desk.outcome(() -> shelf.read(0)));
        Desk.due("place in an empty tape", 0, shelf.count(2));
        for (int what : new int[] {-1, 3, Integer.MIN_VALUE, Integer.MAX_VALUE}) {
            Desk.due("count(" + what + ")", "IllegalArgumentException", Desk.outcome(() -> shelf.count(what)));
        }
        Desk.close();
    }
}
