import java.util.ArrayList;
import java.util.LinkedHashMap;
import java.util.List;
import java.util.Map;

/** A second reader and printer, made of the Java library, to compare the class with. */
final class Model {
    /** Tells the PLACE at which SYNTAX is broken. */
    static final class Broken extends RuntimeException {
        private static final long serialVersionUID = 1;
        final int place;

        Broken(int place) {
            this.place = place;
        }
    }

    static final Object NULL = new Object();

    private final String text;
    private int at = 0;

    private Model(String text) {
        this.text = text;
    }

    static Object parse(String text) {
        Model model = new Model(text);
        Object value = model.value(0);
        model.blanks();
        if (model.at < text.length()) {
            throw new Broken(model.at);
        }
        return value;
    }

    private void blanks() {
        while (at < text.length() && "\t\n\r ".indexOf(text.charAt(at)) >= 0) {
            at++;
        }
    }

    private boolean sees(char c) {
        blanks();
        return at < text.length() && text.charAt(at) == c;
    }

    private void expect(char c) {
        if (!sees(c)) {
            throw new Broken(at);
        }
        at++;
    }

    private Object value(int depth) {
        blanks();
        if (sees('[')) {
            return list(depth);
        }
        if (sees('{')) {
            return map(depth);
        }
        if (sees('"')) {
            return string();
        }
        for (String word : new String[] {"null", "true", "false"}) {
            if (sees(word.charAt(0))) {
                return word(word);
            }
        }
        return number();
    }

    private Object word(String word) {
        for (char c : word.toCharArray()) {
            if (at >= text.length() || text.charAt(at) != c) {
                throw new Broken(at);
            }
            at++;
        }
        return word.equals("null") ? NULL : (Object) word.equals("true");
    }

    private void enter(int depth) {
        if (depth == 32) {
            throw new Broken(at);
        }
        at++;
    }

    private List<Object> list(int depth) {
        enter(depth);
        List<Object> items = new ArrayList<>();
        if (!sees(']')) {
            items.add(value(depth + 1));
            while (sees(',')) {
                at++;
                items.add(value(depth + 1));
            }
        }
        expect(']');
        return items;
    }

    private Map<String, Object> map(int depth) {
        enter(depth);
        Map<String, Object> members = new LinkedHashMap<>();
        if (!sees('}')) {
            member(members, depth);
            while (sees(',')) {
                at++;
                member(members, depth);
            }
        }
        expect('}');
        return members;
    }

    private void member(Map<String, Object> members, int depth) {
        if (!sees('"')) {
            throw new Broken(at);
        }
        int quote = at;
        String name = string();
        if (members.containsKey(name)) {
            throw new Broken(quote);
        }
        expect(':');
        members.put(name, value(depth + 1));
    }

    private Long number() {
        java.util.regex.Matcher m = java.util.regex.Pattern.compile("(-?)(0|[1-9][0-9]*)?([.eE]?)").matcher(text);
        m.region(at, text.length());
        m.lookingAt();
        if (m.group(2) == null) {
            throw new Broken(m.end(1));
        }
        if (!m.group(3).isEmpty()) {
            throw new Broken(at);
        }
        java.math.BigInteger size = new java.math.BigInteger(m.group(2));
        if (size.bitLength() > 53) {
            throw new Broken(at);
        }
        at = m.end(2);
        return m.group(1).isEmpty() ? size.longValue() : -size.longValue();
    }

    private String string() {
        at++;
        StringBuilder units = new StringBuilder();
        while (true) {
            int first = at;
            char c = next(first, first);
            if (c == '"' && text.charAt(at - 1) == '"' && at == first + 1) {
                return units.toString();
            }
            units.append(c);
            if (Character.isLowSurrogate(c)) {
                throw new Broken(first);
            }
            if (Character.isHighSurrogate(c)) {
                char low = next(at, first);
                if (!Character.isLowSurrogate(low)) {
                    throw new Broken(first);
                }
                units.append(low);
            }
        }
    }

    // One UNIT, or a bare quote; what breaks it is told at the given place.
    private char next(int from, int place) {
        String rest = text.substring(from);
        if ("\\".equals(rest) || rest.isEmpty() || rest.matches("\\\\u[0-9a-fA-F]{0,3}")) {
            throw new Broken(text.length());
        }
        if (rest.charAt(0) != '\\') {
            at = from + 1;
            if (rest.charAt(0) < ' ' || rest.charAt(0) > '~') {
                throw new Broken(place);
            }
            return rest.charAt(0);
        }
        int sign = "\"\\/bfnrt".indexOf(rest.charAt(1));
        if (sign >= 0) {
            at = from + 2;
            return "\"\\/\b\f\n\r\t".charAt(sign);
        }
        if (rest.length() < 6 || !rest.substring(1, 6).matches("u[0-9a-fA-F]{4}")) {
            throw new Broken(place);
        }
        at = from + 6;
        return (char) Integer.parseInt(rest.substring(2, 6), 16);
    }

    static String printed(Object value) {
        StringBuilder out = new StringBuilder();
        if (value instanceof List<?> items) {
            for (Object item : items) {
                out.append(out.length() == 0 ? "" : ",").append(printed(item));
            }
            return "[" + out + "]";
        }
        if (value instanceof Map<?, ?> members) {
            for (Map.Entry<?, ?> member : members.entrySet()) {
                out.append(out.length() == 0 ? "" : ",").append(printed(member.getKey()));
                out.append(":").append(printed(member.getValue()));
            }
            return "{" + out + "}";
        }
        if (value instanceof String units) {
            for (char c : units.toCharArray()) {
                int sign = "\b\t\n\f\r\"\\".indexOf(c);
                out.append(sign >= 0 ? "\\" + "btnfr\"\\".charAt(sign)
                    : c < 32 || c > 126 ? String.format("\\u%04x", (int) c) : String.valueOf(c));
            }
            return "\"" + out + "\"";
        }
        return value == NULL ? "null" : value.toString();
    }

    static long kind(Object value) {
        return value == NULL ? 0 : Boolean.FALSE.equals(value) ? 1 : Boolean.TRUE.equals(value) ? 2
            : value instanceof Long ? 3 : value instanceof String ? 4 : value instanceof List ? 5 : 6;
    }

    static long size(Object value) {
        return value instanceof String s ? s.codePointCount(0, s.length()) : parts(value).size();
    }

    static List<Object> parts(Object value) {
        return value instanceof List<?> l ? new ArrayList<>(l)
            : value instanceof Map<?, ?> m ? new ArrayList<>(m.values()) : new ArrayList<>();
    }

    static long depth(Object value) {
        long deepest = 0;
        for (Object part : parts(value)) {
            deepest = Math.max(deepest, depth(part));
        }
        return kind(value) >= 5 ? deepest + 1 : 0;
    }
}
