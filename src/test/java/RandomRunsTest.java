import java.util.ArrayList;
import java.util.Arrays;
import java.util.Collections;
import java.util.List;
import java.util.Map;
import java.util.Random;

/** All promises together: runs of calls, always the same ones, on the class and on the model. */
public final class RandomRunsTest {
    private static final int TEXT_LIMIT = 1000;

    private final Random random;
    private final Desk desk = new Desk();
    private final Object[] slots = new Object[8];
    private String tape = "";
    private String result = "";
    private int place = -1;
    private final int run;

    private RandomRunsTest(int run) {
        this.run = run;
        random = new Random(run);
    }

    public static void main(String[] args) {
        for (int run = 0; run < 6000; run++) {
            new RandomRunsTest(run).calls();
        }
        Desk.close();
    }

    private void due(String what, Object want, Object got) {
        Desk.due("run " + run + ", " + what, want, got);
    }

    // The dearest step, a read or a print of TEXT_LIMIT bytes, is still within the object's 512 calls.
    private void calls() {
        for (int i = 0; i < 40 && desk.shelf.calls() < CountedShelf.CALL_LIMIT - 200; i++) {
            switch (random.nextInt(9)) {
                case 0, 1, 2 -> read();
                case 3 -> print();
                case 4 -> same();
                case 5 -> about();
                case 6 -> feed();
                case 7 -> end();
                default -> take();
            }
            due("count(0)", tape.length(), desk.shelf.count(0));
            due("count(1)", result.length(), desk.shelf.count(1));
            due("count(2)", place, desk.shelf.count(2));
        }
    }

    private void feed() {
        String bytes = value(3) + " ".repeat(20);
        desk.feed(bytes.substring(0, 20));
        tape += bytes.substring(0, 20);
    }

    private void end() {
        int n = random.nextInt(tape.length() + 3) - 1;
        boolean fits = n >= 0 && n <= tape.length();
        due("end(" + n + ")", fits ? n : Desk.ARGUMENT, Desk.outcome(() -> desk.shelf.end(n)));
        tape = fits ? tape.substring(0, n) : tape;
    }

    private int slot() {
        return random.nextInt(12) == 0 ? random.nextBoolean() ? -1 : 8 : random.nextInt(8);
    }

    private static boolean wrong(int slot) {
        return slot < 0 || slot > 7;
    }

    private String refusal(int... asked) {
        for (int slot : asked) {
            if (wrong(slot)) {
                return Desk.ARGUMENT;
            }
        }
        for (int slot : asked) {
            if (slots[slot] == null) {
                return Desk.STATE;
            }
        }
        return null;
    }

    private void read() {
        String more = text();
        String text = tape + more;
        int slot = slot();
        desk.feed(more);
        tape = wrong(slot) ? text : "";
        due("read(" + slot + ") of " + text, wrong(slot) ? Desk.ARGUMENT : readByModel(slot, text),
            Desk.outcome(() -> desk.shelf.read(slot)));
    }

    private Object readByModel(int slot, String text) {
        try {
            slots[slot] = Model.parse(text);
            place = -1;
            return Model.printed(slots[slot]).length();
        } catch (Model.Broken broken) {
            place = broken.place;
            return Desk.UNSUPPORTED;
        }
    }

    private void print() {
        int slot = slot();
        String refusal = refusal(slot);
        if (refusal == null) {
            result = Model.printed(slots[slot]);
        }
        due("print(" + slot + ")", refusal == null ? result.length() : refusal,
            Desk.outcome(() -> desk.shelf.print(slot)));
        due("the result", result, desk.result(0, result.length()));
        due("word behind it", Desk.INDEX, Desk.outcome(() -> desk.shelf.word(result.length())));
    }

    private void same() {
        int a = slot();
        int b = slot();
        String refusal = refusal(a, b);
        due("same(" + a + ", " + b + ")", refusal == null ? slots[a].equals(slots[b]) : refusal,
            Desk.outcome(() -> desk.shelf.same(a, b)));
    }

    private void about() {
        int slot = slot();
        int what = random.nextInt(10) == 0 ? 4 : random.nextInt(4);
        String refusal = what > 3 ? Desk.ARGUMENT : refusal(slot);
        Object want = refusal;
        if (refusal == null) {
            Object value = slots[slot];
            want = what == 0 ? Model.kind(value) : what == 1 ? Model.size(value) : what == 2 ? Model.depth(value)
                : value instanceof Long n ? n : 0L;
        }
        due("about(" + slot + ", " + what + ")", want, Desk.outcome(() -> desk.shelf.about(slot, what)));
    }

    private void take() {
        int to = slot();
        int from = slot();
        int i = random.nextInt(6) - 1;
        Object want = wrong(to) ? Desk.ARGUMENT : refusal(from);
        if (want == null) {
            List<Object> parts = Model.parts(slots[from]);
            if (i >= 0 && i < parts.size()) {
                slots[to] = parts.get(i);
                want = "taken";
            } else {
                want = Desk.NO_ELEMENT;
            }
        }
        due("take(" + to + ", " + from + ", " + i + ")", want, Desk.outcome(() -> {
            desk.shelf.take(to, from, i);
            return "taken";
        }));
    }

    private String text() {
        Object held = slots[random.nextInt(8)];
        String text = held != null && random.nextInt(3) == 0 ? turned(held) : value(random.nextInt(5));
        StringBuilder bytes = new StringBuilder(text);
        for (int changes = random.nextInt(4) - 1; changes > 0 && bytes.length() > 0; changes--) {
            change(bytes);
        }
        return bytes.substring(0, Math.min(bytes.length(), Math.max(0, TEXT_LIMIT - tape.length())));
    }

    private void change(StringBuilder bytes) {
        int at = random.nextInt(bytes.length());
        String signs = "[]{},:\"\\u019-.eEdD8cC \n\u0000\u007f\u00e9tnfa";
        char sign = signs.charAt(random.nextInt(signs.length()));
        switch (random.nextInt(4)) {
            case 0 -> bytes.setLength(at);
            case 1 -> bytes.deleteCharAt(at);
            case 2 -> bytes.insert(at, sign);
            default -> bytes.setCharAt(at, sign);
        }
    }

    // The same value in another dress: names in another order, blanks.
    private String turned(Object value) {
        List<String> parts = new ArrayList<>();
        if (value instanceof List<?> items) {
            items.forEach(item -> parts.add(turned(item)));
            return "[" + String.join(blank() + ",", parts) + blank() + "]";
        }
        if (value instanceof Map<?, ?> members) {
            members.forEach((name, part) -> parts.add(Model.printed(name) + blank() + ":" + turned(part)));
            Collections.shuffle(parts, random);
            return "{" + String.join(blank() + ",", parts) + "}" + blank();
        }
        return blank() + Model.printed(value);
    }

    private String blank() {
        return random.nextInt(8) == 0 ? String.valueOf("\t\n\r ".charAt(random.nextInt(4))) : "";
    }

    private String value(int depth) {
        int kind = random.nextInt(depth > 0 ? 9 : 5);
        List<String> parts = new ArrayList<>();
        for (int i = kind > 4 ? random.nextInt(5) : 0; i > 0; i--) {
            parts.add((kind > 6 ? string() + blank() + ":" : "") + value(depth - 1) + blank());
        }
        switch (kind) {
            case 0:
                return Arrays.asList("null", "true", "false").get(random.nextInt(3));
            case 1:
                return String.valueOf(random.nextInt(40) - 20);
            case 2:
                return String.valueOf((random.nextBoolean() ? 1 : -1) * (9007199254740990L + random.nextInt(3)));
            case 3, 4:
                return string();
            case 5, 6:
                return "[" + blank() + String.join(",", parts) + "]";
            default:
                return "{" + blank() + String.join(",", parts) + "}";
        }
    }

    private String string() {
        String[] signs = {"a", "b", "\\n", "\\/", "/", "\\u0061", "\\u000A", "\\uD83d\\ude00", "\\u00e9", "\\ud7fF",
            "\\\\", "\\\"", "\\ud800", "\\udc00", "~", " ", "{", "]", ","};
        StringBuilder text = new StringBuilder("\"");
        for (int i = random.nextInt(4); i > 0; i--) {
            int sign = random.nextInt(random.nextInt(10) == 0 ? signs.length : 11);
            text.append(signs[sign]);
        }
        return text.append("\"").toString();
    }
}
