import java.nio.charset.StandardCharsets;

/** A new JsonShelf with the calls that tests make again and again, and a tally of wrong answers. */
final class Desk {
    static final String ARGUMENT = "IllegalArgumentException";
    static final String STATE = "IllegalStateException";
    static final String INDEX = "IndexOutOfBoundsException";
    static final String UNSUPPORTED = "UnsupportedOperationException";
    static final String NO_ELEMENT = "NoSuchElementException";

    // What slots and other numbers 0 .. 7 are tried with from outside.
    static final int[] NO_SLOTS = {-1, 8, -8, 256, Integer.MIN_VALUE, Integer.MAX_VALUE};

    // A full tape takes 206 calls, so the bytes of a great result are looked at on several objects.
    private static final int PIECE = 2000;

    private static int checks = 0;
    private static int wrong = 0;

    final CountedShelf shelf = new CountedShelf();

    interface Call {
        Object answer();
    }

    /** One sentence of the document, with a test of its own: it stands or falls without the others. */
    static void sentence(String words, Runnable test) {
        int checksBefore = checks;
        int wrongBefore = wrong;
        try {
            test.run();
        } catch (RuntimeException | AssertionError e) {
            wrong++;
            System.out.println("ended by " + e + " at " + e.getStackTrace()[0]);
        }
        if (checks == checksBefore) {
            wrong++;
            System.out.println("no answer was looked at");
        }
        System.out.println((wrong == wrongBefore ? "holds: " : "BROKEN: ") + words);
    }

    static void due(String what, Object want, Object got) {
        checks++;
        if (!want.equals(got)) {
            wrong++;
            System.out.println(what + ": answered " + got + ", due is " + want);
        }
    }

    /** The call throws just this. */
    static void thrown(String what, String exception, Call call) {
        due(what, exception, outcome(call));
    }

    /** Ends the program: exit code 1 if an answer was wrong, or if none was looked at. */
    static void close() {
        System.out.println(checks + " answers looked at, " + wrong + " wrong");
        System.exit(wrong == 0 && checks > 0 ? 0 : 1);
    }

    /** What the call answers, or the plain name of what it throws. */
    static Object outcome(Call call) {
        try {
            return call.answer();
        } catch (RuntimeException e) {
            return e.getClass().getSimpleName();
        }
    }

    /** Puts the text behind what is on the tape; the odd bytes go first, so that 4096 can be reached. */
    Desk feed(String text) {
        byte[] row = text.getBytes(StandardCharsets.ISO_8859_1);
        int odd = row.length % 20;
        if (odd > 0) {
            shelf.end(feedFrom(row, 0) - 20 + odd);
        }
        for (int at = odd; at < row.length; at += 20) {
            feedFrom(row, at);
        }
        return this;
    }

    private int feedFrom(byte[] row, int at) {
        return shelf.feed(four(row, at), four(row, at + 4), four(row, at + 8), four(row, at + 12), four(row, at + 16));
    }

    private static int four(byte[] row, int at) {
        int four = 0;
        for (int i = at; i < at + 4; i++) {
            four = four << 8 | (i < row.length ? row[i] & 255 : 0);
        }
        return four;
    }

    Desk read(int slot, String text) {
        feed(text);
        shelf.read(slot);
        return this;
    }

    String printed(int slot) {
        return result(0, shelf.print(slot));
    }

    /** The bytes of THE RESULT from the one place to the other; one word is asked for eight of them. */
    String result(int from, int end) {
        StringBuilder text = new StringBuilder();
        for (int i = from; i < end; i += 8) {
            long word = shelf.word(i);
            for (int k = i; k < end && k < i + 8; k++) {
                text.append((char) (word >>> 56));
                word <<= 8;
            }
        }
        return text.toString();
    }

    /** The text is refused at the place, on a new object. */
    static void refused(String text, int place) {
        Desk desk = new Desk().read(3, "[7]").feed(text);
        String what = shown(text);
        thrown("read of " + what, UNSUPPORTED, () -> desk.shelf.read(3));
        due("PLACE of " + what, place, desk.shelf.count(2));
        due("TAPE after " + what, 0, desk.shelf.count(0));
        due("SLOT after " + what, "[7]", desk.printed(3));
    }

    /** The text is taken, and PRINTED so, on a new object. */
    static void taken(String text, String printed) {
        String what = shown(text);
        for (int from = 0; from < printed.length(); from += PIECE) {
            Desk desk = new Desk().feed(text);
            int start = from;
            int end = Math.min(printed.length(), from + PIECE);
            due("read of " + what, printed.length(), outcome(() -> desk.shelf.read(5)));
            due("PLACE of " + what, -1, desk.shelf.count(2));
            due("TAPE after " + what, 0, desk.shelf.count(0));
            due("print of " + what, printed.length(), outcome(() -> desk.shelf.print(5)));
            due("bytes of " + what, printed.substring(start, end), outcome(() -> desk.result(start, end)));
        }
    }

    /** The text is taken, and PRINTED as it is. */
    static void taken(String text) {
        taken(text, text);
    }

    /** A STRING of so many bytes in all. */
    static String stringOf(int bytes) {
        StringBuilder text = new StringBuilder("\"");
        for (int i = 0; i < bytes - 2; i++) {
            text.append((char) ('a' + i % 23));
        }
        return text.append("\"").toString();
    }

    static String shown(String text) {
        return text.length() > 60 ? text.substring(0, 60) + ".. (" + text.length() + ")" : text;
    }
}
