import java.io.IOException;
import java.lang.reflect.InvocationTargetException;
import java.lang.reflect.Method;
import java.lang.reflect.Modifier;
import java.nio.ByteBuffer;
import java.nio.IntBuffer;
import java.nio.charset.StandardCharsets;
import java.nio.file.Files;
import java.nio.file.Path;
import java.util.Arrays;
import java.util.regex.Matcher;
import java.util.regex.Pattern;

/** README.md: the calls that it shows answer what stands behind them, and none of the face is left out. */
public final class ReadmeTest {
    // A call on a line of its own, and behind it what it answers or "throws" and what.
    private static final Pattern CALL =
        Pattern.compile("(?m)^shelf\\.(\\w+)\\(([^)]*)\\); +// (throws )?([^:\\n]+)");

    // A great result takes more calls than an object has left, so only its start is looked at.
    private static final int LOOKED_AT = 1600;

    public static void main(String[] args) throws IOException {
        String readme = Files.readString(Path.of("README.md"));
        Desk.sentence("README: what its calls answer", () -> calls(readme));
        Desk.sentence("README: put and result", ReadmeTest::putAndResult);
        Desk.sentence("README: every call of the face", () -> everyCall(readme));
        Desk.sentence("README: how to run the tests", () -> tests(readme));
        Desk.close();
    }

    private static void calls(String readme) {
        JsonShelf shelf = new JsonShelf();
        Matcher call = CALL.matcher(readme);
        int seen = 0;
        while (call.find()) {
            seen++;
            // A call without an answer has words there instead.
            String answer = call.group(1).equals("take") ? "null" : decoded(call.group(4));
            Desk.due(call.group(), answer, made(shelf, call.group(1), call.group(2).split(", ")));
        }
        Desk.due("calls shown", 13, seen);
    }

    private static String decoded(String answer) {
        return answer.startsWith("0x") ? Long.decode(answer).toString() : answer;
    }

    private static String made(JsonShelf shelf, String name, String[] numbers) {
        Class<?>[] types = new Class<?>[numbers.length];
        Arrays.fill(types, int.class);
        try {
            Object[] values = Arrays.stream(numbers).map(Integer::decode).toArray();
            return String.valueOf(JsonShelf.class.getMethod(name, types).invoke(shelf, values));
        } catch (InvocationTargetException e) {
            return e.getCause().getClass().getSimpleName();
        } catch (ReflectiveOperationException e) {
            return e.toString();
        }
    }

    private static void putAndResult() {
        for (int length : new int[] {2, 7, 8, 9, 19, 20, 21, 40, LOOKED_AT, 4080}) {
            JsonShelf shelf = new JsonShelf();
            String string = Desk.stringOf(length);
            put(shelf, bytes(string));
            Desk.due("bytes on the tape", length, shelf.count(0));
            Desk.due("read", length, shelf.read(0));
            shelf.print(0);
            if (length <= LOOKED_AT) {
                Desk.due("result", string, text(result(shelf)));
            }
        }
        JsonShelf twice = new JsonShelf();
        put(twice, bytes("[1,"));
        put(twice, bytes("2]"));
        Desk.due("read of two pieces", 5, twice.read(0));
        Desk.due("result before a print", "", text(result(twice)));
        JsonShelf full = new JsonShelf();
        String string = Desk.stringOf(4096);
        put(full, bytes(string.substring(0, 4096 % 20)));
        put(full, bytes(string.substring(4096 % 20)));
        Desk.due("a full tape, the odd bytes first", 4096, full.read(0));
    }

    private static void put(JsonShelf shelf, byte[] text) {
        int before = shelf.count(0);
        byte[] row = Arrays.copyOf(text, (text.length + 19) / 20 * 20);
        IntBuffer ints = ByteBuffer.wrap(row).asIntBuffer();
        while (ints.hasRemaining()) {
            shelf.feed(ints.get(), ints.get(), ints.get(), ints.get(), ints.get());
        }
        shelf.end(before + text.length);
    }

    private static byte[] result(JsonShelf shelf) {
        int length = shelf.count(1);
        ByteBuffer row = ByteBuffer.allocate((length + 7) / 8 * 8);
        for (int i = 0; i < length; i += 8) {
            row.putLong(shelf.word(i));
        }
        return Arrays.copyOf(row.array(), length);
    }

    private static byte[] bytes(String text) {
        return text.getBytes(StandardCharsets.ISO_8859_1);
    }

    private static String text(byte[] row) {
        return new String(row, StandardCharsets.ISO_8859_1);
    }

    private static void everyCall(String readme) {
        for (Method method : JsonShelf.class.getDeclaredMethods()) {
            if (Modifier.isPublic(method.getModifiers())) {
                Desk.due(method.getName() + " has a row", true, readme.contains("\n| `" + method.getName() + "("));
            }
        }
    }

    private static void tests(String readme) {
        Desk.due("the command", true, readme.contains("\n```sh\n.ci/run\n```\n"));
    }
}
