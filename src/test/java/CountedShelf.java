/** A JsonShelf that counts its calls, since what an object answers behind its 512th call is free. */
final class CountedShelf {
    static final int CALL_LIMIT = 512;

    private final JsonShelf shelf = new JsonShelf();
    private int calls = 0;

    int calls() {
        return calls;
    }

    private JsonShelf next() {
        calls++;
        if (calls > CALL_LIMIT) {
            throw new AssertionError("a test makes more than 512 calls of one object");
        }
        return shelf;
    }

    int feed(int a, int b, int c, int d, int e) {
        return next().feed(a, b, c, d, e);
    }

    int end(int n) {
        return next().end(n);
    }

    int read(int slot) {
        return next().read(slot);
    }

    int print(int slot) {
        return next().print(slot);
    }

    boolean same(int a, int b) {
        return next().same(a, b);
    }

    long about(int slot, int what) {
        return next().about(slot, what);
    }

    void take(int to, int from, int i) {
        next().take(to, from, i);
    }

    long word(int i) {
        return next().word(i);
    }

    int count(int what) {
        return next().count(what);
    }
}
