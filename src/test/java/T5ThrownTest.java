/** "What is thrown, in this order": which refusal comes first, and that it changes nothing. */
public final class T5ThrownTest {
    interface Change {
        void make(CountedShelf shelf);
    }

    public static void main(String[] args) {
        Desk.sentence("IllegalArgumentException: a number out of range", T5ThrownTest::argumentsFirst);
        Desk.sentence("IllegalStateException: a SLOT holds none", T5ThrownTest::statesSecond);
        Desk.sentence("then as the call says", T5ThrownTest::theRestLast);
        Desk.sentence("A call that throws changes nothing", T5ThrownTest::nothingChanges);
        Desk.sentence("but as said", T5ThrownTest::whatABrokenReadChanges);
        Desk.close();
    }

    private static void refused(String what, String exception, Desk desk, Change call) {
        Desk.thrown(what, exception, () -> {
            call.make(desk.shelf);
            return "no exception";
        });
    }

    // Slot 7 holds none and the tape is broken, so each call could be refused for what comes later, too.
    private static void argumentsFirst() {
        for (int no : Desk.NO_SLOTS) {
            Desk desk = new Desk().read(0, "[1]").feed("]");
            refused("end(" + no + ")", Desk.ARGUMENT, desk, x -> x.end(no));
            refused("read(" + no + ")", Desk.ARGUMENT, desk, x -> x.read(no));
            refused("print(" + no + ")", Desk.ARGUMENT, desk, x -> x.print(no));
            refused("same(" + no + ", 7)", Desk.ARGUMENT, desk, x -> x.same(no, 7));
            refused("same(7, " + no + ")", Desk.ARGUMENT, desk, x -> x.same(7, no));
            refused("same(0, " + no + ")", Desk.ARGUMENT, desk, x -> x.same(0, no));
            refused("about(" + no + ", 0)", Desk.ARGUMENT, desk, x -> x.about(no, 0));
            refused("about(7, " + no + ")", Desk.ARGUMENT, desk, x -> x.about(7, no));
            refused("about(0, " + no + ")", Desk.ARGUMENT, desk, x -> x.about(0, no));
            refused("take(" + no + ", 7, 9)", Desk.ARGUMENT, desk, x -> x.take(no, 7, 9));
            refused("take(" + no + ", 0, 9)", Desk.ARGUMENT, desk, x -> x.take(no, 0, 9));
            refused("take(7, " + no + ", 9)", Desk.ARGUMENT, desk, x -> x.take(7, no, 9));
            refused("count(" + no + ")", Desk.ARGUMENT, desk, x -> x.count(no));
        }
    }

    private static void statesSecond() {
        Desk desk = new Desk().read(0, "[1]");
        refused("print(7)", Desk.STATE, desk, x -> x.print(7));
        refused("same(0, 7)", Desk.STATE, desk, x -> x.same(0, 7));
        refused("same(7, 0)", Desk.STATE, desk, x -> x.same(7, 0));
        refused("same(7, 7)", Desk.STATE, desk, x -> x.same(7, 7));
        for (int i = 0; i <= 3; i++) {
            int what = i;
            refused("about(7, " + i + ")", Desk.STATE, desk, x -> x.about(7, what));
        }
        refused("take(0, 7, 0)", Desk.STATE, desk, x -> x.take(0, 7, 0));
        refused("take(7, 7, 0)", Desk.STATE, desk, x -> x.take(7, 7, 0));
        for (int i : new int[] {-1, 9, Integer.MIN_VALUE, Integer.MAX_VALUE}) {
            refused("take(0, 7, " + i + ")", Desk.STATE, desk, x -> x.take(0, 7, i));
        }
    }

    // Where the argument is right and the slot holds a value, or none is asked for.
    private static void theRestLast() {
        Desk desk = new Desk().read(0, "[1]").feed("]");
        refused("take(0, 0, 1)", Desk.NO_ELEMENT, desk, x -> x.take(0, 0, 1));
        refused("take(7, 0, -1)", Desk.NO_ELEMENT, desk, x -> x.take(7, 0, -1));
        refused("word(0)", Desk.INDEX, desk, x -> x.word(0));
        refused("read(7)", Desk.UNSUPPORTED, desk, x -> x.read(7));
        Desk.due("slot 0", "[1]", desk.printed(0));
        desk.shelf.take(7, 0, 0);
        Desk.due("to may hold none", "1", desk.printed(7));
    }

    // A tape that is full but a VALUE, a result, a PLACE, values and slots that hold none.
    private static Desk prepared() {
        Desk desk = new Desk().read(0, "[1,{\"a\":2}]").read(1, "\"text\"").read(6, "7").feed("[1,x");
        Desk.outcome(() -> desk.shelf.read(2));
        desk.shelf.print(1);
        return desk.feed("[4,5]" + " ".repeat(4091));
    }

    private static String state(Desk desk) {
        StringBuilder state = new StringBuilder();
        for (int what = 0; what < 3; what++) {
            state.append(desk.shelf.count(what)).append(' ');
        }
        state.append(desk.result(0, desk.shelf.count(1)));
        for (int i = 0; i < 8; i++) {
            int slot = i;
            state.append(' ').append(Desk.outcome(() -> desk.printed(slot)));
        }
        state.append(' ').append(Desk.outcome(() -> desk.shelf.read(5)));
        return state.append(' ').append(Desk.outcome(() -> desk.printed(5))).toString();
    }

    private static void unchanged(String what, String exception, Change call) {
        Desk desk = prepared();
        refused(what, exception, desk, call);
        Desk.due("state after " + what,
            "4096 6 3 \"text\" [1,{\"a\":2}] \"text\" " + "IllegalStateException ".repeat(4) + "7 IllegalStateException 5 [4,5]",
            state(desk));
    }

    private static void nothingChanges() {
        unchanged("feed to a full tape", Desk.INDEX, x -> x.feed(0x31313131, 0x31313131, 0, 0, 0));
        unchanged("end(-1)", Desk.ARGUMENT, x -> x.end(-1));
        unchanged("end(4097)", Desk.ARGUMENT, x -> x.end(4097));
        unchanged("read(-1)", Desk.ARGUMENT, x -> x.read(-1));
        unchanged("read(8)", Desk.ARGUMENT, x -> x.read(8));
        unchanged("print(-1)", Desk.ARGUMENT, x -> x.print(-1));
        unchanged("print(8)", Desk.ARGUMENT, x -> x.print(8));
        unchanged("print(2)", Desk.STATE, x -> x.print(2));
        unchanged("same(0, 8)", Desk.ARGUMENT, x -> x.same(0, 8));
        unchanged("same(0, 2)", Desk.STATE, x -> x.same(0, 2));
        unchanged("about(0, 4)", Desk.ARGUMENT, x -> x.about(0, 4));
        unchanged("about(2, 0)", Desk.STATE, x -> x.about(2, 0));
        unchanged("take(8, 0, 0)", Desk.ARGUMENT, x -> x.take(8, 0, 0));
        unchanged("take(1, 8, 0)", Desk.ARGUMENT, x -> x.take(1, 8, 0));
        unchanged("take(1, 2, 0)", Desk.STATE, x -> x.take(1, 2, 0));
        unchanged("take(1, 0, 2)", Desk.NO_ELEMENT, x -> x.take(1, 0, 2));
        unchanged("take(2, 0, -1)", Desk.NO_ELEMENT, x -> x.take(2, 0, -1));
        unchanged("take(0, 6, 0)", Desk.NO_ELEMENT, x -> x.take(0, 6, 0));
        unchanged("word(-1)", Desk.INDEX, x -> x.word(-1));
        unchanged("word(6)", Desk.INDEX, x -> x.word(6));
        unchanged("count(-1)", Desk.ARGUMENT, x -> x.count(-1));
        unchanged("count(3)", Desk.ARGUMENT, x -> x.count(3));
    }

    private static void whatABrokenReadChanges() {
        for (int i : new int[] {1, 2}) {
            Desk desk = prepared();
            desk.shelf.end(4);
            refused("a broken read", Desk.UNSUPPORTED, desk, x -> x.read(i));
            desk.feed("0");
            Desk.due("state after it",
                "1 6 4 \"text\" [1,{\"a\":2}] \"text\" " + "IllegalStateException ".repeat(4) + "7 IllegalStateException 1 0",
                state(desk));
        }
    }
}
