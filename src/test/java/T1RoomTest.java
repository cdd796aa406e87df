/** "What it is" and the first lines of "Terms": how many calls, bytes and SLOTS there are. */
public final class T1RoomTest {
    public static void main(String[] args) {
        Desk.sentence("An object is used for at most 512 calls after it has been made",
            T1RoomTest::allCallsAreAnswered);
        Desk.sentence("THE TAPE has at most 4096 bytes", T1RoomTest::theTapeHas4096Bytes);
        Desk.sentence("THE RESULT at most 16384", T1RoomTest::theResultHasRoomForAll);
        Desk.sentence("SLOTS 0 .. 7 hold a VALUE each", T1RoomTest::eightSlotsHoldAValueEach);
        Desk.sentence("or none (at first)", T1RoomTest::slotsHoldNoneAtFirst);
        Desk.close();
    }

    private static void allCallsAreAnswered() {
        Desk desk = new Desk().read(0, "{\"a\":1,\"b\":2}").read(1, "{\"b\":2,\"a\":1}");
        while (desk.shelf.calls() < CountedShelf.CALL_LIMIT) {
            oneCall(desk, desk.shelf.calls() + 1);
        }
        Desk.due("calls made", 512, desk.shelf.calls());
    }

    private static void oneCall(Desk desk, int number) {
        String what = "call " + number;
        switch (number % 8) {
            case 0 -> Desk.due(what, true, desk.shelf.same(0, 1));
            case 1 -> Desk.due(what, 2L, desk.shelf.about(1, 1));
            case 2 -> Desk.due(what, 13, desk.shelf.print(1));
            case 3 -> Desk.due(what, 0x7b2262223a322c22L, desk.shelf.word(0));
            case 4 -> Desk.thrown(what, Desk.UNSUPPORTED, () -> desk.shelf.read(1));
            case 5 -> Desk.due(what, 0, desk.shelf.count(2));
            case 6 -> Desk.thrown(what, Desk.STATE, () -> desk.shelf.print(2));
            default -> Desk.thrown(what, Desk.NO_ELEMENT, () -> {
                desk.shelf.take(0, 1, 2);
                return "taken";
            });
        }
    }

    private static void theTapeHas4096Bytes() {
        Desk.taken(Desk.stringOf(4096));
        Desk full = new Desk().feed(Desk.stringOf(4096));
        Desk.due("bytes of a full tape", 4096, full.shelf.count(0));
        Desk.thrown("feed to a full tape", Desk.INDEX, () -> full.shelf.feed(0, 0, 0, 0, 0));
        Desk.due("bytes after it", 4096, full.shelf.count(0));
        Desk.refused(" ".repeat(4096), 4096);
        Desk.refused("\"" + "x".repeat(4095), 4096);
        Desk.refused(" ".repeat(4095) + "]", 4095);
        Desk.taken(" ".repeat(4095) + "7", "7");
    }

    private static void theResultHasRoomForAll() {
        String[] longest = {
            Desk.stringOf(4096),
            "[\"" + "\\u0001".repeat(682) + "\"]",
            "[" + "1,".repeat(2046) + "10]",
            "{\"" + "\\\"".repeat(2044) + "a\":\"\"}",
        };
        for (String text : longest) {
            Desk.due("bytes of the text", 4096, text.length());
            Desk desk = new Desk().feed(text);
            Desk.due("read of it", 4096, desk.shelf.read(0));
            Desk.due("print of it", 4096, desk.shelf.print(0));
            Desk.due("bytes of the result", 4096, desk.shelf.count(1));
            Desk.due("its last bytes", text.substring(4088), desk.result(4088, 4096));
            Desk.thrown("behind its last byte", Desk.INDEX, () -> desk.shelf.word(4096));
            Desk.taken(text);
        }
    }

    private static void eightSlotsHoldAValueEach() {
        Desk small = new Desk();
        for (int slot = 0; slot < 8; slot++) {
            small.read(slot, "[" + slot + "]");
        }
        for (int slot = 0; slot < 8; slot++) {
            Desk.due("slot " + slot, "[" + slot + "]", small.printed(slot));
        }
        String part = Desk.stringOf(4094);
        Desk great = new Desk().read(0, "[" + part + "]");
        for (int slot = 7; slot >= 0; slot--) {
            great.shelf.take(slot, 0, 0);
        }
        for (int slot = 0; slot < 8; slot++) {
            Desk.due("bytes of slot " + slot, 4094, great.shelf.print(slot));
            Desk.due("its last bytes", part.substring(4086), great.result(4086, 4094));
            Desk.due("the same as slot 3", true, great.shelf.same(slot, 3));
        }
    }

    private static void slotsHoldNoneAtFirst() {
        Desk desk = new Desk();
        for (int i = 0; i < 8; i++) {
            int slot = i;
            Desk.thrown("print of slot " + i, Desk.STATE, () -> desk.shelf.print(slot));
            Desk.thrown("about slot " + i, Desk.STATE, () -> desk.shelf.about(slot, 0));
            Desk.thrown("same of slot " + i, Desk.STATE, () -> desk.shelf.same(slot, slot));
        }
        desk.read(4, "null");
        Desk.due("null is a VALUE, not none", "null", desk.printed(4));
        Desk.thrown("a slot beside it", Desk.STATE, () -> desk.shelf.print(5));
    }
}
