/** Promise 9: word answers 8 bytes of THE RESULT. */
public final class P09WordTest {
    public static void main(String[] args) {
        Desk desk = new Desk().read(0, "\"abcdefghij\"");
        JsonShelf shelf = desk.shelf;
        Desk.due("word before a print", "IndexOutOfBoundsException", Desk.outcome(() -> shelf.word(0)));
        shelf.print(0);
        Desk.due("word(0)", 0x2261626364656667L, shelf.word(0));
        Desk.due("word(1)", 0x6162636465666768L, shelf.word(1));
        Desk.due("word(4)", 0x6465666768696a22L, shelf.word(4));
        Desk.due("word(5), one zero", 0x65666768696a2200L, shelf.word(5));
        Desk.due("word at the last byte", 0x2200000000000000L, shelf.word(11));
        Desk.due("word behind the end", "IndexOutOfBoundsException", Desk.outcome(() -> shelf.word(12)));
        Desk.due("word(-1)", "IndexOutOfBoundsException", Desk.outcome(() -> shelf.word(-1)));
        Desk.due("word(least)", "IndexOutOfBoundsException", Desk.outcome(() -> shelf.word(Integer.MIN_VALUE)));
        Desk.due("word(greatest)", "IndexOutOfBoundsException", Desk.outcome(() -> shelf.word(Integer.MAX_VALUE)));
        desk.read(1, "42");
        shelf.print(1);
        Desk.due("no bytes of an older result", 0x3432000000000000L, shelf.word(0));
        Desk.due("word(2) of 2 bytes", "IndexOutOfBoundsException", Desk.outcome(() -> shelf.word(2)));
        Desk.close();
    }
}
