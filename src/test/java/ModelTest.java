import java.util.ArrayList;
import java.util.List;
import java.util.function.Consumer;

/**
 * Long runs of mixed calls, right and wrong ones, always the same: each answer, and from time to
 * time every answer that can be asked for, is compared with that of the plain model. As an object
 * is good for 512 calls, further ones are led the same way when there is more to ask.
 */
public final class ModelTest {
    private static final int RUNS = 500;
    private static final int MOST_CHANGES = 300;
    private static final int COMPARISONS = 4;

    private static final List<Consumer<Counted>> CHANGES = new ArrayList<>();

    private static long seed = 20261115L;
    private static Counted x;
    private static PlainModel y;
    private static Counted asked;
    private static String run;

    private ModelTest() { }

    public static void main(String[] args) {
        for (int r = 0; r < RUNS; r++) {
            run = "run " + r;
            x = new Counted();
            y = new PlainModel();
            CHANGES.clear();
            for (int part = 1; part <= COMPARISONS; part++) {
                while (CHANGES.size() < MOST_CHANGES * part / COMPARISONS) {
                    change(r % 4);
                    askOne();
                }
                compareAll(run + " after " + CHANGES.size());
            }
        }
        Check.finish();
    }

    /** One question to the object that is changed: what it has worked out before must not stay. */
    private static void askOne() {
        int p = pick(0, 23);
        int k = pick(0, 3);
        int what = pick(0, 5);
        if (x.callsLeft() <= MOST_CHANGES + 30 - CHANGES.size()) {
            return;
        }
        if (pick(0, 1) == 0) {
            Check.due(run + " line(" + p + ", " + k + ", " + what + ")", x.line(p, k, what), y.line(p, k, what));
        } else {
            Check.due(run + " column(" + k + ", " + what + ")", x.column(k, what), y.column(k, what));
        }
    }

    /** The object to ask: led as the run went, and good for another call. */
    private static Counted fresh() {
        if (asked == null || asked.callsLeft() == 0) {
            asked = new Counted();
            for (Consumer<Counted> change : CHANGES) {
                change.accept(asked);
            }
        }
        return asked;
    }

    private static int pick(int least, int greatest) {
        seed = seed * 6364136223846793005L + 1442695040888963407L;
        return least + (int) ((seed >>> 33) % (greatest - least + 1));
    }

    private static void change(int kind) {
        int n = y.total(2);
        int p = pick(0, 29) == 0 ? pick(-1, n + 1) : pick(0, n > 0 ? n - 1 : 0);
        int choice = pick(0, 99);
        if (n == 0 || choice < 12) {
            insertOne(n);
        } else if (choice < 55) {
            addOne(p, kind);
        } else if (choice < 60) {
            Check.due(run + " drop(" + p + ")", x.drop(p), y.drop(p));
            CHANGES.add(z -> z.drop(p));
        } else if (choice < 75) {
            styleOne(kind);
        } else if (choice < 78) {
            pageOne(kind);
        } else if (choice < 83) {
            trackOne();
        } else if (choice < 85) {
            boolean accept = pick(0, 1) == 1;
            Check.due(run + " resolve(" + p + ")", x.resolve(p, accept), y.resolve(p, accept));
            CHANGES.add(z -> z.resolve(p, accept));
        } else if (choice < 89) {
            stepOne();
        } else if (choice < 95) {
            int m = pick(0, 19) == 0 ? pick(-2, 8) : pick(-1, 7);
            Check.due(run + " mark(" + p + ", " + m + ")", x.mark(p, m), y.mark(p, m));
            CHANGES.add(z -> z.mark(p, m));
        } else if (choice < 99) {
            int s = pick(0, 19) == 0 ? pick(-1, 6) : pick(0, 5);
            Check.due(run + " restyle(" + p + ", " + s + ")", x.restyle(p, s), y.restyle(p, s));
            CHANGES.add(z -> z.restyle(p, s));
        } else {
            Check.due(run + " remove(" + p + ")", x.remove(p), y.remove(p));
            CHANGES.add(z -> z.remove(p));
        }
    }

    private static void insertOne(int n) {
        int p = pick(0, 29) == 0 ? pick(-1, n + 1) : pick(0, n);
        int s = pick(0, 29) == 0 ? pick(-1, 6) : pick(0, 5);
        Check.due(run + " insert(" + p + ", " + s + ")", x.insert(p, s), y.insert(p, s));
        CHANGES.add(z -> z.insert(p, s));
    }

    /** By the kind of run: mixed words, wide ones (many columns), references, many notes. */
    private static void addOne(int p, int kind) {
        int times = pick(1, 5);
        for (int i = 0; i < times; i++) {
            int some = kind == 1 ? pick(15, 30) : pick(1, 12);
            int right = pick(0, 9) < (kind == 2 ? 5 : 1) ? pick(-8, -1) : some;
            int width = pick(0, 39) == 0 ? pick(-10, 32) : right;
            int height = pick(0, 3) == 0 || kind == 3 ? pick(0, 3) : 0;
            int note = pick(0, 39) == 0 ? pick(-1, 4) : height;
            Check.due(run + " add(" + p + ", " + width + ", " + note + ")",
                x.add(p, width, note), y.add(p, width, note));
            CHANGES.add(z -> z.add(p, width, note));
        }
    }

    private static void styleOne(int kind) {
        int s = pick(0, 29) == 0 ? pick(-1, 6) : pick(0, 5);
        int what = pick(0, 29) == 0 ? pick(-1, 12) : pick(0, 11);
        int right = what >= 8 ? pick(0, 1) : what == 6 || what == 7 ? pick(0, 3) : what == 5 ? pick(1, 4)
            : what == 2 ? pick(-5, 10) : pick(0, kind == 1 ? 10 : 4);
        int v = pick(0, 29) == 0 ? pick(-6, 11) : right;
        Check.due(run + " style(" + s + ", " + what + ", " + v + ")", x.style(s, what, v), y.style(s, what, v));
        CHANGES.add(z -> z.style(s, what, v));
    }

    private static void pageOne(int kind) {
        int width = pick(0, 19) == 0 ? pick(18, 82) : pick(20, kind == 0 ? 80 : 30);
        int height = pick(0, 19) == 0 ? pick(8, 62) : pick(10, kind == 0 ? 60 : 14);
        int columns = pick(0, 19) == 0 ? pick(0, 3) : pick(1, 2);
        Check.due(run + " page(" + width + ", " + height + ", " + columns + ")",
            x.page(width, height, columns), y.page(width, height, columns));
        CHANGES.add(z -> z.page(width, height, columns));
    }

    private static void trackOne() {
        boolean on = pick(0, 1) == 1;
        int view = pick(0, 9) == 0 ? pick(-1, 3) : pick(0, 2);
        Check.due(run + " track(" + on + ", " + view + ")", x.track(on, view), y.track(on, view));
        CHANGES.add(z -> z.track(on, view));
    }

    private static void stepOne() {
        int times = pick(0, 9) == 0 ? 22 : pick(1, 4);
        boolean back = pick(0, 2) > 0;
        for (int i = 0; i < times; i++) {
            Check.due(run + " step(" + back + ")", x.step(back), y.step(back));
            CHANGES.add(z -> z.step(back));
        }
    }

    private static void compareAll(String when) {
        asked = null;
        for (int what = -1; what <= 5; what++) {
            Check.due(when + " total(" + what + ")", fresh().total(what), y.total(what));
        }
        for (int c = -1; c <= y.total(0); c++) {
            for (int what = -1; what <= 5; what++) {
                Check.due(when + " column(" + c + ", " + what + ")", fresh().column(c, what), y.column(c, what));
            }
        }
        for (int p = -1; p <= y.total(2); p++) {
            for (int what = -1; what <= 6; what++) {
                Check.due(when + " paragraph(" + p + ", " + what + ")", fresh().paragraph(p, what), y.paragraph(p, what));
            }
            for (int w = -1; w <= 16; w++) {
                Check.due(when + " word(" + p + ", " + w + ")", fresh().word(p, w), y.word(p, w));
            }
            for (int k = -1; k <= 16; k++) {
                for (int what = -1; what <= 6; what++) {
                    Check.due(when + " line(" + p + ", " + k + ", " + what + ")",
                        fresh().line(p, k, what), y.line(p, k, what));
                }
            }
        }
    }
}
