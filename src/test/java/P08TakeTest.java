/** Promise 8: take. */
public final class P08TakeTest {
    public static void main(String[] args) {
        Desk.sentence("to holds what is in from at i, from 0, of [ ]", P08TakeTest::partsOfArrays);
        Desk.sentence("or what the i-th name of { } has", P08TakeTest::partsOfObjects);
        Desk.sentence("there is none: NoSuchElementException", P08TakeTest::behindTheLast);
        Desk.sentence("(So for i below 0", P08TakeTest::belowZero);
        Desk.sentence("and where from holds neither", P08TakeTest::neither);
        Desk.sentence("to may be from.)", P08TakeTest::aSlotFromItself);
        Desk.sentence("throws IllegalArgumentException, IllegalStateException", P08TakeTest::wrongInputs);
        Desk.close();
    }

    private static Object part(Desk desk, int to, int from, int i) {
        return Desk.outcome(() -> {
            desk.shelf.take(to, from, i);
            return desk.printed(to);
        });
    }

    private static void partsOfArrays() {
        String text = "[1,\"a,]\\\"\",[2,[3]],{\"x\":[4]},null,{},[]]";
        Desk desk = new Desk().read(0, text);
        String[] parts = {"1", "\"a,]\\\"\"", "[2,[3]]", "{\"x\":[4]}", "null", "{}", "[]"};
        for (int i = 0; i < parts.length; i++) {
            Desk.due("part " + i, parts[i], part(desk, 1, 0, i));
        }
        Desk.due("the whole stays", text, desk.printed(0));
        Desk ones = new Desk().read(0, "[" + "1,".repeat(2046) + "2]");
        Desk.due("the first of 2047", "1", part(ones, 1, 0, 0));
        Desk.due("the last but one of 2047", "1", part(ones, 1, 0, 2045));
        Desk.due("the last of 2047", "2", part(ones, 1, 0, 2046));
        Desk.due("behind the last of 2047", Desk.NO_ELEMENT, part(ones, 1, 0, 2047));
    }

    private static void partsOfObjects() {
        Desk desk = new Desk().read(7, "{\"z\":1,\"a\":{\"q\":[1,2]},\":\":\"a\",\"\":\":\"}");
        Desk.due("the first name", "1", part(desk, 0, 7, 0));
        Desk.due("the second name", "{\"q\":[1,2]}", part(desk, 0, 7, 1));
        Desk.due("the third name", "\"a\"", part(desk, 0, 7, 2));
        Desk.due("the last name", "\":\"", part(desk, 0, 7, 3));
        Desk.due("behind the last", Desk.NO_ELEMENT, part(desk, 0, 7, 4));
    }

    private static void noneAt(String text, int... places) {
        Desk desk = new Desk().read(0, text).read(1, "77");
        for (int i : places) {
            Desk.due(text + " at " + i, Desk.NO_ELEMENT, part(desk, 1, 0, i));
            Desk.due(text + " at " + i + " to none", Desk.NO_ELEMENT, part(desk, 2, 0, i));
            Desk.due(text + " at " + i + " to itself", Desk.NO_ELEMENT, part(desk, 0, 0, i));
        }
        Desk.due("from stays", text, desk.printed(0));
        Desk.due("to stays", "77", desk.printed(1));
        Desk.thrown("what held none stays", Desk.STATE, () -> desk.shelf.print(2));
    }

    private static void behindTheLast() {
        noneAt("[]", 0, 1, Integer.MAX_VALUE);
        noneAt("{}", 0, 1, Integer.MAX_VALUE);
        noneAt("[5]", 1, 2, Integer.MAX_VALUE);
        noneAt("[5,6]", 2, 3, 256, Integer.MAX_VALUE);
        noneAt("{\"a\":5}", 1, 2, Integer.MAX_VALUE);
        // Those within a part are not in it.
        noneAt("[[1,2,3]]", 1, 2, 3);
        noneAt("{\"a\":{\"b\":1,\"c\":2}}", 1, 2);
    }

    private static void belowZero() {
        noneAt("[5,6]", -1, -2, Integer.MIN_VALUE);
        noneAt("{\"a\":5}", -1, -2, Integer.MIN_VALUE);
        noneAt("[]", -1);
        noneAt("{}", -1);
    }

    private static void neither() {
        for (String text : new String[] {"null", "true", "false", "12", "\"ab\"", "\"[1]\""}) {
            noneAt(text, 0, 1, -1, Integer.MIN_VALUE, Integer.MAX_VALUE);
        }
    }

    private static void aSlotFromItself() {
        Desk desk = new Desk().read(3, "[0,{\"a\":[5,6,[7,8,9]]}]");
        Desk.due("once", "{\"a\":[5,6,[7,8,9]]}", part(desk, 3, 3, 1));
        Desk.due("twice", "[5,6,[7,8,9]]", part(desk, 3, 3, 0));
        Desk.due("three times", "[7,8,9]", part(desk, 3, 3, 2));
        Desk.due("size of it", 3L, desk.shelf.about(3, 1));
        Desk.due("four times", "8", part(desk, 3, 3, 1));
        Desk.due("no more", Desk.NO_ELEMENT, part(desk, 3, 3, 0));
        Desk.due("the last stays", "8", desk.printed(3));
        String great = Desk.stringOf(2000);
        Desk full = new Desk().read(0, "[" + great + "]");
        Desk.due("a great part", great, part(full, 0, 0, 0));
        Desk deep = new Desk().read(0, "[".repeat(32) + "]".repeat(32));
        for (int depth = 31; depth > 0; depth--) {
            Desk.due("inwards to " + depth, "[".repeat(depth) + "]".repeat(depth), part(deep, 0, 0, 0));
        }
        Desk.due("inwards to none", Desk.NO_ELEMENT, part(deep, 0, 0, 0));
    }

    private static void wrongInputs() {
        Desk desk = new Desk().read(0, "[1]");
        for (int no : Desk.NO_SLOTS) {
            Desk.due("to " + no, Desk.ARGUMENT, part(desk, no, 0, 0));
            Desk.due("from " + no, Desk.ARGUMENT, part(desk, 0, no, 0));
            Desk.due("to " + no + " from none", Desk.ARGUMENT, part(desk, no, 7, -1));
        }
        Desk.due("from none", Desk.STATE, part(desk, 0, 7, 0));
        Desk.due("from none, below 0", Desk.STATE, part(desk, 0, 7, -1));
        Desk.due("nothing changed", "[1]", desk.printed(0));
    }
}
