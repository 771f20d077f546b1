import java.util.NoSuchElementException;

/** An AreaSetter that is asked no more than the document allows: what later calls answer is free, so no test may ask. */
final class Used {
    static final int MOST_CALLS = 512;

    private final AreaSetter setter = new AreaSetter();
    private int calls = 0;

    /** How many calls are left. */
    int left() {
        return MOST_CALLS - calls;
    }

    private AreaSetter next() {
        calls++;
        if (calls > MOST_CALLS) {
            throw new IllegalStateException("a test uses an object for more than " + MOST_CALLS + " calls");
        }
        return setter;
    }

    boolean sheet(int wide, int high) {
        return next().sheet(wide, high);
    }

    boolean price(int v) {
        return next().price(v);
    }

    int feed(int a, int b, int c, int d, int e) {
        return next().feed(a, b, c, d, e);
    }

    int end(int n) {
        return next().end(n);
    }

    int tree() {
        return next().tree();
    }

    int place() {
        return next().place();
    }

    int size(int box, int tick, int v) {
        return next().size(box, tick, v);
    }

    boolean rest(int box, int limit, boolean open) {
        return next().rest(box, limit, open);
    }

    int draw(int tick) {
        return next().draw(tick);
    }

    int box(int b, int what) {
        return next().box(b, what);
    }

    int restOf(int b, int what) {
        return next().restOf(b, what);
    }

    int under(int x, int y) {
        return next().under(x, y);
    }

    int letters(int b) {
        return next().letters(b);
    }

    int moved(int b) {
        return next().moved(b);
    }

    int past(int d, int b, int what) throws NoSuchElementException {
        return next().past(d, b, what);
    }

    int about(int b, int what) {
        return next().about(b, what);
    }

    int letter(int b, int i) {
        return next().letter(b, i);
    }

    int named() {
        return next().named();
    }

    int sizeIn(int b, int tick) {
        return next().sizeIn(b, tick);
    }

    int count(int what) {
        return next().count(what);
    }
}
