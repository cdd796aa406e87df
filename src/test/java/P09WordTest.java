/** Promise 9: word. */
public final class P09WordTest {
    public static void main(String[] args) {
        Desk.sentence("8 bytes of THE RESULT from i on, the highest first", P09WordTest::eightBytes);
        Desk.sentence("zeros behind its end", P09WordTest::zerosBehindTheEnd);
        Desk.sentence("i is none of its bytes: IndexOutOfBoundsException", P09WordTest::noneOfItsBytes);
        Desk.close();
    }

    private static Desk printed(String text) {
        Desk desk = new Desk().read(0, text);
        desk.shelf.print(0);
        return desk;
    }

    private static void eightBytes() {
        Desk desk = printed("\"abcdefghij\"");
        Desk.due("word(0)", 0x2261626364656667L, desk.shelf.word(0));
        Desk.due("word(1)", 0x6162636465666768L, desk.shelf.word(1));
        Desk.due("word(4), the last that is full", 0x6465666768696a22L, desk.shelf.word(4));
        Desk.due("word(0) of \"~~~~~~\"", 0x227e7e7e7e7e7e22L, printed("\"~~~~~~\"").shelf.word(0));
        String great = Desk.stringOf(4096);
        Desk full = printed(great);
        Desk.due("the last 8 of 4096", great.substring(4088), full.result(4088, 4096));
        Desk.due("8 in the midst of them", great.substring(2043, 2051), full.result(2043, 2051));
    }

    private static void zerosBehindTheEnd() {
        Desk desk = printed("\"abcdefghij\"");
        Desk.due("word(5), one zero", 0x65666768696a2200L, desk.shelf.word(5));
        Desk.due("word(10), six zeros", 0x6a22000000000000L, desk.shelf.word(10));
        Desk.due("word at the last byte", 0x2200000000000000L, desk.shelf.word(11));
        desk.read(1, "42");
        desk.shelf.print(1);
        Desk.due("no bytes of an older result", 0x3432000000000000L, desk.shelf.word(0));
        Desk.due("the last byte of a full one", 0x2200000000000000L, printed(Desk.stringOf(4096)).shelf.word(4095));
        Desk.due("one byte in all", 0x3000000000000000L, printed("0").shelf.word(0));
    }

    private static void noneOfItsBytes() {
        Desk desk = new Desk().read(0, "\"abcdefghij\"");
        Desk.thrown("word before a print", Desk.INDEX, () -> desk.shelf.word(0));
        desk.shelf.print(0);
        for (int i : new int[] {12, 13, 16, 4096, 16384, -1, -8, Integer.MIN_VALUE, Integer.MAX_VALUE,
            Integer.MAX_VALUE - 7}) {
            Desk.thrown("word(" + i + ") of 12 bytes", Desk.INDEX, () -> desk.shelf.word(i));
        }
        desk.read(1, "42");
        desk.shelf.print(1);
        Desk.thrown("word(2) of 2 bytes", Desk.INDEX, () -> desk.shelf.word(2));
        Desk.thrown("word(11), of an older result", Desk.INDEX, () -> desk.shelf.word(11));
        Desk full = printed(Desk.stringOf(4096));
        Desk.thrown("word(4096) of 4096", Desk.INDEX, () -> full.shelf.word(4096));
    }
}
