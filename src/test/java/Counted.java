/**
 * A PageSetter that counts its calls, as the document promises nothing about an object after its
 * 512th call: a test that asks more of one object would ask for what is free.
 */
final class Counted {
    private static final int MOST_CALLS = 512;

    private final PageSetter setter = new PageSetter();
    private int calls = 0;

    int callsLeft() {
        return MOST_CALLS - calls;
    }

    private PageSetter next() {
        calls++;
        if (calls == MOST_CALLS + 1) {
            Check.due("a test has used one object for more than 512 calls, which", calls, MOST_CALLS);
        }
        return setter;
    }

    int insert(int p, int style) {
        return next().insert(p, style);
    }

    int remove(int p) {
        return next().remove(p);
    }

    boolean restyle(int p, int style) {
        return next().restyle(p, style);
    }

    boolean mark(int p, int m) {
        return next().mark(p, m);
    }

    int add(int p, int width, int note) {
        return next().add(p, width, note);
    }

    int drop(int p) {
        return next().drop(p);
    }

    boolean style(int style, int what, int v) {
        return next().style(style, what, v);
    }

    boolean page(int width, int height, int columns) {
        return next().page(width, height, columns);
    }

    boolean track(boolean on, int view) {
        return next().track(on, view);
    }

    int resolve(int p, boolean accept) {
        return next().resolve(p, accept);
    }

    boolean step(boolean back) {
        return next().step(back);
    }

    int paragraph(int p, int what) {
        return next().paragraph(p, what);
    }

    int line(int p, int k, int what) {
        return next().line(p, k, what);
    }

    int word(int p, int w) {
        return next().word(p, w);
    }

    int column(int c, int what) {
        return next().column(c, what);
    }

    int total(int what) {
        return next().total(what);
    }
}
