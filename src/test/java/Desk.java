import java.nio.charset.StandardCharsets;

/** A new JsonShelf with the calls that tests make again and again, and a tally of wrong answers. */
final class Desk {
    private static int checks = 0;
    private static int wrong = 0;

    final JsonShelf shelf = new JsonShelf();

    interface Call {
        Object answer();
    }

    static void due(String what, Object want, Object got) {
        checks++;
        if (!want.equals(got)) {
            wrong++;
            System.out.println(what + ": answered " + got + ", due is " + want);
        }
    }

    /** Ends the program: exit code 1 if an answer was wrong, or if none was looked at. */
    static void close() {
        System.out.println(checks + " answers looked at, " + wrong + " wrong");
        System.exit(wrong == 0 && checks > 0 ? 0 : 1);
    }

    /** What the call answers, or the plain name of what it throws. */
    static Object outcome(Call call) {
        try {
            return call.answer();
        } catch (RuntimeException e) {
            return e.getClass().getSimpleName();
        }
    }

    static byte[] bytes(String text) {
        return text.getBytes(StandardCharsets.ISO_8859_1);
    }

    /** Puts the text behind what is on the tape; the odd bytes go first, so that 4096 can be reached. */
    Desk feed(String text) {
        byte[] row = bytes(text);
        int odd = row.length % 20;
        if (odd > 0) {
            feedFrom(row, 0);
            shelf.end(shelf.count(0) - 20 + odd);
        }
        for (int at = odd; at < row.length; at += 20) {
            feedFrom(row, at);
        }
        return this;
    }

    private void feedFrom(byte[] row, int at) {
        shelf.feed(four(row, at), four(row, at + 4), four(row, at + 8), four(row, at + 12), four(row, at + 16));
    }

    private static int four(byte[] row, int at) {
        int four = 0;
        for (int i = at; i < at + 4; i++) {
            four = four << 8 | (i < row.length ? row[i] & 255 : 0);
        }
        return four;
    }

    Desk read(int slot, String text) {
        feed(text);
        shelf.read(slot);
        return this;
    }

    String printed(int slot) {
        int length = shelf.print(slot);
        return result(length);
    }

    String result(int length) {
        StringBuilder text = new StringBuilder();
        long word = 0;
        for (int i = 0; i < length; i++) {
            // An object's calls are counted: one word is asked for eight bytes.
            if (i % 8 == 0) {
                word = shelf.word(i);
            }
            text.append((char) (word >>> 56));
            word <<= 8;
        }
        return text.toString();
    }

    /** The text is refused at the place, on a new object. */
    static void refused(String text, int place) {
        Desk desk = new Desk().read(3, "[7]");
        desk.feed(text);
        String what = shown(text);
        due("read of " + what, "UnsupportedOperationException", outcome(() -> desk.shelf.read(3)));
        due("PLACE of " + what, place, desk.shelf.count(2));
        due("TAPE after " + what, 0, desk.shelf.count(0));
        due("SLOT after " + what, "[7]", desk.printed(3));
    }

    /** The text is taken, and PRINTED so, on a new object. */
    static void taken(String text, String printed) {
        Desk desk = new Desk();
        desk.feed(text);
        String what = shown(text);
        due("read of " + what, printed.length(), outcome(() -> desk.shelf.read(5)));
        due("PLACE of " + what, -1, desk.shelf.count(2));
        due("TAPE after " + what, 0, desk.shelf.count(0));
        due("PRINTED " + what, printed, outcome(() -> desk.printed(5)));
    }

    static String shown(String text) {
        return text.length() > 60 ? text.substring(0, 60) + ".. (" + text.length() + ")" : text;
    }
}
