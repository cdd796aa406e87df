import java.util.NoSuchElementException;

/**
 * A reader and printer of JSON with eight slots for values.
 *
 * A slot keeps its value as the PRINTED text. One value has one PRINTED text, but for the order of
 * names, so printing is copying, and numbers and strings are the same when their bytes are.
 */
public final class JsonShelf {
    // No PRINTED text is longer than the text it was read from, so this bounds every text here.
    private static final int TEXT_LIMIT = 4096;
    private static final int FEED_BYTES = 20;
    private static final int SLOT_COUNT = 8;
    private static final int DEPTH_LIMIT = 32;
    private static final int NOTHING = -1;

    private final Text tape;
    private final Text result;
    private final Text[] slots;
    private final Reader reader;
    private final Outline outline;
    private final Comparison comparison;
    private int place;

    public JsonShelf() {
        tape = new Text(TEXT_LIMIT);
        result = new Text(TEXT_LIMIT);
        slots = new Text[SLOT_COUNT];
        for (int i = 0; i < SLOT_COUNT; i++) {
            slots[i] = new Text(TEXT_LIMIT);
        }
        reader = new Reader(tape);
        outline = new Outline();
        comparison = new Comparison(outline, new Outline());
        place = NOTHING;
    }

    public int feed(int a, int b, int c, int d, int e) throws IndexOutOfBoundsException {
        if (tape.length() + FEED_BYTES > TEXT_LIMIT) {
            throw new IndexOutOfBoundsException();
        }
        tape.addInt(a);
        tape.addInt(b);
        tape.addInt(c);
        tape.addInt(d);
        tape.addInt(e);
        return tape.length();
    }

    public int end(int n) throws IllegalArgumentException {
        if (n < 0 || n > tape.length()) {
            throw new IllegalArgumentException();
        }
        tape.keep(n);
        return n;
    }

    public int read(int slot) throws IllegalArgumentException, UnsupportedOperationException {
        Text target = slotAt(slot);
        place = reader.readTape();
        tape.keep(0);
        if (place != NOTHING) {
            throw new UnsupportedOperationException();
        }
        Text printed = reader.printed();
        target.become(printed, 0, printed.length());
        return target.length();
    }

    public int print(int slot) throws IllegalArgumentException, IllegalStateException {
        Text value = held(slotAt(slot));
        result.become(value, 0, value.length());
        return result.length();
    }

    public boolean same(int a, int b) throws IllegalArgumentException, IllegalStateException {
        Text first = slotAt(a);
        Text second = slotAt(b);
        return comparison.compare(held(first), held(second));
    }

    public long about(int slot, int what) throws IllegalArgumentException, IllegalStateException {
        Text text = slotAt(slot);
        if (what < 0 || what > 3) {
            throw new IllegalArgumentException();
        }
        Text value = held(text);
        switch (what) {
            case 0:
                return kindOf(value);
            case 1:
                return sizeOf(value);
            case 2:
                outline.draw(value);
                return outline.deepest();
            default:
                return numberOf(value);
        }
    }

    public void take(int to, int from, int i)
            throws IllegalArgumentException, IllegalStateException, NoSuchElementException {
        Text target = slotAt(to);
        Text source = held(slotAt(from));
        outline.draw(source);
        int part = outline.childOfRoot(i);
        if (part == NOTHING) {
            throw new NoSuchElementException();
        }
        target.become(source, outline.startOf(part), outline.endOf(part));
    }

    public long word(int i) throws IndexOutOfBoundsException {
        if (i < 0 || i >= result.length()) {
            throw new IndexOutOfBoundsException();
        }
        long bytes = 0;
        for (int k = 0; k < 8; k++) {
            int b = result.at(i + k);
            bytes = bytes << 8 | (b == NOTHING ? 0 : b);
        }
        return bytes;
    }

    public int count(int what) throws IllegalArgumentException {
        switch (what) {
            case 0:
                return tape.length();
            case 1:
                return result.length();
            case 2:
                return place;
            default:
                throw new IllegalArgumentException();
        }
    }

    private Text slotAt(int slot) {
        if (slot < 0 || slot >= slots.length) {
            throw new IllegalArgumentException();
        }
        return slots[slot];
    }

    // Every value is PRINTED with one byte at least, so an empty text stands for no value.
    private static Text held(Text slot) {
        if (slot.length() == 0) {
            throw new IllegalStateException();
        }
        return slot;
    }

    private static int kindOf(Text value) {
        switch (value.at(0)) {
            case 'n':
                return 0;
            case 'f':
                return 1;
            case 't':
                return 2;
            case '"':
                return 4;
            case '[':
                return 5;
            case '{':
                return 6;
            default:
                return 3;
        }
    }

    private int sizeOf(Text value) {
        if (value.at(0) == '"') {
            return charactersOf(value);
        }
        outline.draw(value);
        return outline.childrenOf(0);
    }

    private static int charactersOf(Text string) {
        int characters = 0;
        for (int i = 1; i < string.length() - 1; i++) {
            if (!isSecondUnit(string, i)) {
                characters++;
            }
            if (string.at(i) == '\\') {
                i += string.at(i + 1) == 'u' ? 5 : 1;
            }
        }
        return characters;
    }

    // What was read has a UNIT 56320 .. 57343, in hex dc00 .. dfff, only as the second of two.
    private static boolean isSecondUnit(Text string, int i) {
        return string.at(i) == '\\' && string.at(i + 1) == 'u'
            && string.at(i + 2) == 'd' && string.at(i + 3) >= 'c';
    }

    private static long numberOf(Text value) {
        if (kindOf(value) != 3) {
            return 0;
        }
        boolean below = value.at(0) == '-';
        long size = 0;
        for (int i = below ? 1 : 0; i < value.length(); i++) {
            size = size * 10 + (value.at(i) - '0');
        }
        return below ? -size : size;
    }

    /** A row of bytes with a limit; what would go beyond the limit is left out. */
    private static final class Text {
        private final byte[] bytes;
        private int length;

        Text(int limit) {
            bytes = new byte[limit];
            length = 0;
        }

        int length() {
            return length;
        }

        int at(int i) {
            return i >= 0 && i < length ? bytes[i] & 255 : NOTHING;
        }

        void add(int b) {
            if (length < bytes.length) {
                bytes[length] = (byte) b;
                length++;
            }
        }

        void addInt(int four) {
            add(four >>> 24);
            add(four >>> 16);
            add(four >>> 8);
            add(four);
        }

        void keep(int n) {
            if (n >= 0 && n <= length) {
                length = n;
            }
        }

        // The other text may be this one: arraycopy moves bytes as if through a row of its own.
        void become(Text other, int from, int end) {
            if (from >= 0 && from <= end && end <= other.length && end - from <= bytes.length) {
                System.arraycopy(other.bytes, from, bytes, 0, end - from);
                length = end - from;
            }
        }

        boolean hasSameBytes(int from, int end, Text other, int otherFrom, int otherEnd) {
            if (end - from != otherEnd - otherFrom) {
                return false;
            }
            for (int i = 0; i < end - from; i++) {
                if (at(from + i) != other.at(otherFrom + i)) {
                    return false;
                }
            }
            return true;
        }

        int hash(int from, int end) {
            int hash = 0;
            for (int i = from; i < end; i++) {
                hash = hash * 31 + at(i);
            }
            return hash;
        }
    }

    /** Reads the tape as a DOCUMENT, printing as it goes. */
    private static final class Reader {
        private static final long NUMBER_LIMIT = (1L << 53) - 1;

        // What may come next on the tape.
        private static final int VALUE = 0;
        private static final int VALUE_OR_CLOSE = 1;
        private static final int NAME = 2;
        private static final int NAME_OR_CLOSE = 3;
        private static final int COLON = 4;
        private static final int BEHIND_VALUE = 5;
        private static final int STOP = 6;

        // Answers of unitAt that are no UNIT.
        private static final int ENDED = -1;
        private static final int WRONG = -2;

        private final Text tape;
        private final Text printed;
        private final Names names;
        private final byte[] opened;
        private final int[] namesBefore;
        private int depth;
        private int at;
        private int unitBytes;
        private int place;

        Reader(Text tape) {
            this.tape = tape;
            printed = new Text(TEXT_LIMIT);
            names = new Names(printed);
            opened = new byte[DEPTH_LIMIT];
            namesBefore = new int[DEPTH_LIMIT];
        }

        Text printed() {
            return printed;
        }

        /** Answers the PLACE at which SYNTAX is broken, or NOTHING. */
        int readTape() {
            restart();
            int next = VALUE;
            // Every step but the last takes a byte of the tape at least.
            for (int steps = 0; steps <= TEXT_LIMIT && next != STOP; steps++) {
                skipBlanks();
                int b = tape.at(at);
                switch (next) {
                    case VALUE:
                        next = value(b);
                        break;
                    case VALUE_OR_CLOSE:
                        next = b == ']' ? close(b) : value(b);
                        break;
                    case NAME:
                        next = name(b);
                        break;
                    case NAME_OR_CLOSE:
                        next = b == '}' ? close(b) : name(b);
                        break;
                    case COLON:
                        next = colon(b);
                        break;
                    default:
                        next = behindValue(b);
                        break;
                }
            }
            return place;
        }

        private void restart() {
            printed.keep(0);
            names.keep(0);
            depth = 0;
            at = 0;
            place = NOTHING;
        }

        private void skipBlanks() {
            while (at < tape.length() && isBlank(tape.at(at))) {
                at++;
            }
        }

        private void pass(int b) {
            printed.add(b);
            at++;
        }

        private int breakAt(int where) {
            place = where;
            return STOP;
        }

        private int value(int b) {
            switch (b) {
                case 'n':
                    return literal("null");
                case 'f':
                    return literal("false");
                case 't':
                    return literal("true");
                case '"':
                    return string(BEHIND_VALUE);
                case '[':
                    return open(b, VALUE_OR_CLOSE);
                case '{':
                    return open(b, NAME_OR_CLOSE);
                default:
                    return number(b);
            }
        }

        private int behindValue(int b) {
            if (depth == 0) {
                return b == NOTHING ? STOP : breakAt(at);
            }
            boolean inArray = opened[depth - 1] == '[';
            if (b == ',') {
                pass(b);
                return inArray ? VALUE : NAME;
            }
            return b == (inArray ? ']' : '}') ? close(b) : breakAt(at);
        }

        private int colon(int b) {
            if (b != ':') {
                return breakAt(at);
            }
            pass(b);
            return VALUE;
        }

        private int open(int b, int next) {
            if (depth >= DEPTH_LIMIT) {
                return breakAt(at);
            }
            opened[depth] = (byte) b;
            namesBefore[depth] = names.size();
            depth++;
            pass(b);
            return next;
        }

        private int close(int b) {
            if (depth > 0) {
                depth--;
                names.keep(namesBefore[depth]);
            }
            pass(b);
            return BEHIND_VALUE;
        }

        private int literal(String letters) {
            for (int i = 0; i < letters.length(); i++) {
                if (tape.at(at) != letters.charAt(i)) {
                    return breakAt(at);
                }
                pass(letters.charAt(i));
            }
            return BEHIND_VALUE;
        }

        private int number(int b) {
            int digits = b == '-' ? at + 1 : at;
            if (!isDigit(tape.at(digits))) {
                return breakAt(digits);
            }
            int end = digits + 1;
            // Digits behind a 0 are no part of the NUMBER: they break what is around it.
            if (tape.at(digits) != '0') {
                end = endOfDigits(digits);
            }
            if (isTooGreat(digits, end) || isFraction(tape.at(end))) {
                return breakAt(at);
            }
            // -0 is PRINTED as 0.
            int shown = tape.at(digits) == '0' ? digits : at;
            for (int i = shown; i < end; i++) {
                printed.add(tape.at(i));
            }
            at = end;
            return BEHIND_VALUE;
        }

        private int endOfDigits(int from) {
            int end = from;
            while (end < tape.length() && isDigit(tape.at(end))) {
                end++;
            }
            return end;
        }

        private boolean isTooGreat(int from, int end) {
            long size = 0;
            // It stops beyond the limit, so a long row of digits does not wrap around.
            for (int i = from; i < end && size <= NUMBER_LIMIT; i++) {
                size = size * 10 + (tape.at(i) - '0');
            }
            return size > NUMBER_LIMIT;
        }

        private int name(int b) {
            int quote = at;
            int start = printed.length();
            if (b != '"') {
                return breakAt(at);
            }
            if (string(COLON) == STOP) {
                return STOP;
            }
            int first = depth > 0 ? namesBefore[depth - 1] : 0;
            if (names.holds(first, start, printed.length())) {
                return breakAt(quote);
            }
            names.add(start, printed.length());
            return COLON;
        }

        private int string(int next) {
            pass('"');
            // Every round takes a byte of the tape at least.
            for (int rounds = 0; rounds < TEXT_LIMIT && at < tape.length(); rounds++) {
                if (tape.at(at) == '"') {
                    pass('"');
                    return next;
                }
                if (!character()) {
                    return STOP;
                }
            }
            return breakAt(tape.length());
        }

        private boolean character() {
            int first = unitAt(at);
            int second = NOTHING;
            int bytes = unitBytes;
            boolean ended = first == ENDED;
            boolean fits = first >= 0 && !isSecondOfTwo(first);
            if (isFirstOfTwo(first)) {
                second = unitAt(at + bytes);
                bytes += unitBytes;
                ended = second == ENDED;
                fits = isSecondOfTwo(second);
            }
            if (!fits) {
                breakAt(ended ? tape.length() : at);
                return false;
            }
            addUnit(first);
            if (second != NOTHING) {
                addUnit(second);
            }
            at += bytes;
            return true;
        }

        // The UNIT that begins there, with its length in unitBytes; ENDED if the tape ends within.
        private int unitAt(int from) {
            int b = tape.at(from);
            unitBytes = 1;
            if (b == NOTHING) {
                return ENDED;
            }
            if (b != '\\') {
                return b < 32 || b > 126 || b == '"' ? WRONG : b;
            }
            int sign = tape.at(from + 1);
            unitBytes = 2;
            if (sign == NOTHING) {
                return ENDED;
            }
            return sign == 'u' ? hexUnit(from + 2) : unitOfSign(sign);
        }

        private int hexUnit(int from) {
            int unit = 0;
            for (int i = from; i < from + 4; i++) {
                int b = tape.at(i);
                if (b == NOTHING) {
                    return ENDED;
                }
                int digit = hexDigit(b);
                if (digit == NOTHING) {
                    return WRONG;
                }
                unit = unit * 16 + digit;
            }
            unitBytes = 6;
            return unit;
        }

        private void addUnit(int unit) {
            int sign = signOfUnit(unit);
            if (sign != NOTHING) {
                printed.add('\\');
                printed.add(sign);
            } else if (unit < 32 || unit > 126) {
                printed.add('\\');
                printed.add('u');
                for (int shift = 12; shift >= 0; shift -= 4) {
                    int digit = unit >> shift & 15;
                    printed.add(digit < 10 ? '0' + digit : 'a' + digit - 10);
                }
            } else {
                printed.add(unit);
            }
        }

        private static int unitOfSign(int sign) {
            switch (sign) {
                case '"':
                case '\\':
                case '/':
                    return sign;
                case 'b':
                    return 8;
                case 't':
                    return 9;
                case 'n':
                    return 10;
                case 'f':
                    return 12;
                case 'r':
                    return 13;
                default:
                    return WRONG;
            }
        }

        private static int signOfUnit(int unit) {
            switch (unit) {
                case '"':
                case '\\':
                    return unit;
                case 8:
                    return 'b';
                case 9:
                    return 't';
                case 10:
                    return 'n';
                case 12:
                    return 'f';
                case 13:
                    return 'r';
                default:
                    return NOTHING;
            }
        }

        private static int hexDigit(int b) {
            if (b >= '0' && b <= '9') {
                return b - '0';
            }
            if (b >= 'a' && b <= 'f') {
                return b - 'a' + 10;
            }
            return b >= 'A' && b <= 'F' ? b - 'A' + 10 : NOTHING;
        }

        private static boolean isBlank(int b) {
            return b == 9 || b == 10 || b == 13 || b == 32;
        }

        private static boolean isDigit(int b) {
            return b >= '0' && b <= '9';
        }

        private static boolean isFraction(int b) {
            return b == '.' || b == 'e' || b == 'E';
        }

        private static boolean isFirstOfTwo(int unit) {
            return unit >= 55296 && unit <= 56319;
        }

        private static boolean isSecondOfTwo(int unit) {
            return unit >= 56320 && unit <= 57343;
        }
    }

    /** The names of all { } that are open, the innermost last, as places in the PRINTED text. */
    private static final class Names {
        // A name has two quotes, a colon and a byte of its value at least.
        private static final int NAME_LIMIT = TEXT_LIMIT / 4;

        private final Text text;
        private final int[] starts;
        private final int[] ends;
        private final int[] hashes;
        private int count;

        Names(Text text) {
            this.text = text;
            starts = new int[NAME_LIMIT];
            ends = new int[NAME_LIMIT];
            hashes = new int[NAME_LIMIT];
            count = 0;
        }

        int size() {
            return count;
        }

        void keep(int n) {
            if (n >= 0 && n <= count) {
                count = n;
            }
        }

        void add(int start, int end) {
            if (count < NAME_LIMIT) {
                starts[count] = start;
                ends[count] = end;
                hashes[count] = text.hash(start, end);
                count++;
            }
        }

        boolean holds(int first, int start, int end) {
            int hash = text.hash(start, end);
            for (int i = Math.max(first, 0); i < count; i++) {
                if (hashes[i] == hash && text.hasSameBytes(starts[i], ends[i], text, start, end)) {
                    return true;
                }
            }
            return false;
        }
    }

    /**
     * Where the values within a PRINTED text are: numbered in the order in which they begin, so the
     * whole is 0, and the first one within a value has the number behind it.
     */
    private static final class Outline {
        // Every value but the whole has a byte of its own and a comma or bracket before it.
        private static final int VALUE_LIMIT = TEXT_LIMIT / 2;

        private final int[] starts;
        private final int[] ends;
        private final int[] followers;
        private final int[] children;
        private final int[] names;
        private final int[] hashes;
        private final int[] opened;
        private Text text;
        private int count;
        private int depth;
        private int deepest;

        Outline() {
            starts = new int[VALUE_LIMIT];
            ends = new int[VALUE_LIMIT];
            followers = new int[VALUE_LIMIT];
            children = new int[VALUE_LIMIT];
            names = new int[VALUE_LIMIT];
            hashes = new int[VALUE_LIMIT];
            opened = new int[DEPTH_LIMIT];
            text = new Text(0);
        }

        void draw(Text printed) {
            text = printed;
            count = 0;
            depth = 0;
            deepest = 0;
            int name = NOTHING;
            int end = 0;
            for (int at = 0; at < text.length(); at = end) {
                int b = text.at(at);
                end = Math.max(endOfSign(at), at + 1);
                if (b == ']' || b == '}') {
                    close(end);
                } else if (b == '"' && text.at(end) == ':') {
                    name = at;
                } else if (b != ',' && b != ':') {
                    add(at, end, name);
                    name = NOTHING;
                }
                if (b == '[' || b == '{') {
                    open();
                }
            }
        }

        int deepest() {
            return deepest;
        }

        int startOf(int value) {
            return cell(starts, value);
        }

        int endOf(int value) {
            return cell(ends, value);
        }

        int childrenOf(int value) {
            return cell(children, value);
        }

        /** The number of the value that follows, past all that is within this one. */
        int followerOf(int value) {
            return cell(followers, value);
        }

        int firstByte(int value) {
            return text.at(startOf(value));
        }

        int childOfRoot(int i) {
            if (i < 0 || i >= childrenOf(0)) {
                return NOTHING;
            }
            int child = 1;
            for (int k = 0; k < i; k++) {
                child = followerOf(child);
            }
            return child;
        }

        boolean hasSameBytes(int value, Outline other, int otherValue) {
            return text.hasSameBytes(startOf(value), endOf(value),
                other.text, other.startOf(otherValue), other.endOf(otherValue));
        }

        // A name ends before the colon that stands before its value.
        boolean hasSameName(int value, Outline other, int otherValue) {
            return cell(hashes, value) == cell(other.hashes, otherValue)
                && text.hasSameBytes(cell(names, value), startOf(value) - 1,
                    other.text, cell(other.names, otherValue), other.startOf(otherValue) - 1);
        }

        private static int cell(int[] row, int i) {
            return i >= 0 && i < row.length ? row[i] : NOTHING;
        }

        private void add(int start, int end, int name) {
            if (count >= VALUE_LIMIT) {
                return;
            }
            if (depth > 0) {
                children[opened[depth - 1]]++;
            }
            starts[count] = start;
            ends[count] = end;
            followers[count] = count + 1;
            children[count] = 0;
            names[count] = name;
            hashes[count] = name == NOTHING ? 0 : text.hash(name, start - 1);
            count++;
        }

        private void open() {
            if (depth < DEPTH_LIMIT && count > 0) {
                opened[depth] = count - 1;
                depth++;
                deepest = Math.max(deepest, depth);
            }
        }

        private void close(int end) {
            if (depth > 0) {
                depth--;
                ends[opened[depth]] = end;
                followers[opened[depth]] = count;
            }
        }

        private int endOfSign(int at) {
            int b = text.at(at);
            if (b == '"') {
                return endOfString(at);
            }
            int end = at + 1;
            if (!isMark(b)) {
                while (end < text.length() && !isMark(text.at(end))) {
                    end++;
                }
            }
            return end;
        }

        private int endOfString(int quote) {
            for (int i = quote + 1; i < text.length(); i++) {
                int b = text.at(i);
                if (b == '"') {
                    return i + 1;
                }
                if (b == '\\') {
                    i++;
                }
            }
            return text.length();
        }

        private static boolean isMark(int b) {
            return b == '[' || b == ']' || b == '{' || b == '}' || b == ',' || b == ':';
        }
    }

    /** Compares two PRINTED texts as values. */
    private static final class Comparison {
        private final Outline left;
        private final Outline right;

        Comparison(Outline left, Outline right) {
            this.left = left;
            this.right = right;
        }

        boolean compare(Text first, Text second) {
            left.draw(first);
            right.draw(second);
            return equal(0, 0, 0);
        }

        private boolean equal(int value, int other, int depth) {
            int kind = left.firstByte(value);
            if (depth > DEPTH_LIMIT || kind != right.firstByte(other)
                    || left.childrenOf(value) != right.childrenOf(other)) {
                return false;
            }
            if (kind == '[') {
                return equalItems(value, other, depth);
            }
            if (kind == '{') {
                return equalMembers(value, other, depth);
            }
            return left.hasSameBytes(value, right, other);
        }

        private boolean equalItems(int array, int otherArray, int depth) {
            int item = array + 1;
            int other = otherArray + 1;
            for (int i = 0; i < left.childrenOf(array); i++) {
                if (!equal(item, other, depth + 1)) {
                    return false;
                }
                item = left.followerOf(item);
                other = right.followerOf(other);
            }
            return true;
        }

        // The names of each are different and as many, so each need only be found the one way.
        private boolean equalMembers(int object, int otherObject, int depth) {
            int member = object + 1;
            int likely = otherObject + 1;
            for (int i = 0; i < left.childrenOf(object); i++) {
                int other = memberLike(member, otherObject, likely);
                if (other == NOTHING || !equal(member, other, depth + 1)) {
                    return false;
                }
                member = left.followerOf(member);
                likely = right.followerOf(other);
            }
            return true;
        }

        // The search begins where the name is if both have one order, and goes round from there.
        private int memberLike(int member, int otherObject, int likely) {
            int other = likely;
            for (int i = 0; i < right.childrenOf(otherObject); i++) {
                if (other >= right.followerOf(otherObject)) {
                    other = otherObject + 1;
                }
                if (left.hasSameName(member, right, other)) {
                    return other;
                }
                other = right.followerOf(other);
            }
            return NOTHING;
        }
    }
}
