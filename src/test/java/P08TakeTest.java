/** Promise 8: take puts a part of a value into a slot. */
public final class P08TakeTest {
    public static void main(String[] args) {
        partsOfArrays();
        partsOfObjects();
        aSlotFromItself();
        noParts();
        wrongInputs();
        Desk.close();
    }

    private static Object part(Desk desk, int to, int from, int i) {
        return Desk.outcome(() -> {
            desk.shelf.take(to, from, i);
            return desk.printed(to);
        });
    }

    private static void partsOfArrays() {
        String text = "[1,\"a,]\\\"\",[2,[3]],{\"x\":[4]},null,{},[]]";
        Desk desk = new Desk().read(0, text);
        String[] parts = {"1", "\"a,]\\\"\"", "[2,[3]]", "{\"x\":[4]}", "null", "{}", "[]"};
        for (int i = 0; i < parts.length; i++) {
            Desk.due("part " + i, parts[i], part(desk, 1, 0, i));
        }
        Desk.due("the whole stays", text, desk.printed(0));
    }

    private static void partsOfObjects() {
        Desk desk = new Desk().read(7, "{\"z\":1,\"a\":{\"q\":[1,2]},\":\":\"a\",\"\":\":\"}");
        Desk.due("the first name", "1", part(desk, 0, 7, 0));
        Desk.due("the second name", "{\"q\":[1,2]}", part(desk, 0, 7, 1));
        Desk.due("the third name", "\"a\"", part(desk, 0, 7, 2));
        Desk.due("the last name", "\":\"", part(desk, 0, 7, 3));
        Desk.due("behind the last", "NoSuchElementException", part(desk, 0, 7, 4));
    }

    private static void aSlotFromItself() {
        Desk desk = new Desk().read(3, "[0,{\"a\":[5,6,[7,8,9]]}]");
        Desk.due("once", "{\"a\":[5,6,[7,8,9]]}", part(desk, 3, 3, 1));
        Desk.due("twice", "[5,6,[7,8,9]]", part(desk, 3, 3, 0));
        Desk.due("three times", "[7,8,9]", part(desk, 3, 3, 2));
        Desk.due("size of it", 3L, desk.shelf.about(3, 1));
        Desk.due("four times", "8", part(desk, 3, 3, 1));
        Desk.due("no more", "NoSuchElementException", part(desk, 3, 3, 0));
        Desk.due("the last stays", "8", desk.printed(3));
        Desk full = new Desk().feed("[\"" + "x".repeat(4092) + "\"]");
        full.shelf.read(0);
        Desk.due("a great part", "\"" + "x".repeat(4092) + "\"", part(full, 0, 0, 0));
    }

    private static void noParts() {
        String[] texts = {"null", "true", "false", "12", "\"ab\"", "[]", "{}"};
        for (String text : texts) {
            Desk desk = new Desk().read(0, text).read(1, "77");
            for (int i : new int[] {0, 1, -1, Integer.MIN_VALUE, Integer.MAX_VALUE}) {
                Desk.due(text + " at " + i, "NoSuchElementException", part(desk, 1, 0, i));
            }
            Desk.due("the target stays", "77", desk.printed(1));
        }
        Desk desk = new Desk().read(0, "[5,6]");
        for (int i : new int[] {2, -1, Integer.MIN_VALUE, Integer.MAX_VALUE}) {
            Desk.due("[5,6] at " + i, "NoSuchElementException", part(desk, 1, 0, i));
        }
        Desk.due("an empty target stays empty", "IllegalStateException", Desk.outcome(() -> desk.shelf.print(1)));
    }

    private static void wrongInputs() {
        Desk desk = new Desk().read(0, "[1]");
        for (int slot : new int[] {-1, 8, Integer.MIN_VALUE, Integer.MAX_VALUE}) {
            Desk.due("to " + slot, "IllegalArgumentException", part(desk, slot, 0, 0));
            Desk.due("from " + slot, "IllegalArgumentException", part(desk, 0, slot, 0));
            Desk.due("to " + slot + " from none", "IllegalArgumentException", part(desk, slot, 7, -1));
        }
        Desk.due("from none", "IllegalStateException", part(desk, 0, 7, 0));
        Desk.due("from none, below 0", "IllegalStateException", part(desk, 0, 7, -1));
        Desk.due("nothing changed", "[1]", desk.printed(0));
    }
}
