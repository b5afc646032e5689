/**
 * Long runs of mixed calls, right and wrong ones, always the same: each answer, and from time to
 * time every answer that can be asked for, is compared with that of the plain model.
 */
public final class ModelTest {
    private static final int RUNS = 400;
    private static final int CALLS = 160;

    private static long seed = 20261115L;
    private static PageSetter x;
    private static PlainModel y;
    private static String run;

    private ModelTest() { }

    public static void main(String[] args) {
        for (int r = 0; r < RUNS; r++) {
            run = "run " + r;
            x = new PageSetter();
            y = new PlainModel();
            for (int i = 0; i < CALLS; i++) {
                change(r % 4);
                if (i % 8 == 7) {
                    compareAll(run + " after " + i);
                }
            }
        }
        Check.finish();
    }

    private static int pick(int least, int greatest) {
        seed = seed * 6364136223846793005L + 1442695040888963407L;
        return least + (int) ((seed >>> 33) % (greatest - least + 1));
    }

    private static void change(int kind) {
        int n = y.total(2);
        int p = pick(0, 29) == 0 ? pick(-1, n + 1) : pick(0, n > 0 ? n - 1 : 0);
        int choice = pick(0, 99);
        if (n == 0 || choice < 12) {
            insertOne(n);
        } else if (choice < 55) {
            addOne(p, kind);
        } else if (choice < 60) {
            Check.due(run + " drop(" + p + ")", x.drop(p), y.drop(p));
        } else if (choice < 75) {
            styleOne(kind);
        } else if (choice < 78) {
            pageOne(kind);
        } else if (choice < 83) {
            trackOne();
        } else if (choice < 85) {
            boolean accept = pick(0, 1) == 1;
            Check.due(run + " resolve(" + p + ")", x.resolve(p, accept), y.resolve(p, accept));
        } else if (choice < 89) {
            stepOne();
        } else if (choice < 95) {
            int m = pick(0, 19) == 0 ? pick(-2, 8) : pick(-1, 7);
            Check.due(run + " mark(" + p + ", " + m + ")", x.mark(p, m), y.mark(p, m));
        } else if (choice < 99) {
            int s = pick(0, 19) == 0 ? pick(-1, 6) : pick(0, 5);
            Check.due(run + " restyle(" + p + ", " + s + ")", x.restyle(p, s), y.restyle(p, s));
        } else {
            Check.due(run + " remove(" + p + ")", x.remove(p), y.remove(p));
        }
    }

    private static void insertOne(int n) {
        int p = pick(0, 29) == 0 ? pick(-1, n + 1) : pick(0, n);
        int s = pick(0, 29) == 0 ? pick(-1, 6) : pick(0, 5);
        Check.due(run + " insert(" + p + ", " + s + ")", x.insert(p, s), y.insert(p, s));
    }

    /** By the kind of run: mixed words, wide ones (many columns), references, many notes. */
    private static void addOne(int p, int kind) {
        int times = pick(1, 5);
        for (int i = 0; i < times; i++) {
            int width = kind == 1 ? pick(15, 30) : pick(1, 12);
            if (pick(0, 9) < (kind == 2 ? 5 : 1)) {
                width = pick(-8, -1);
            }
            width = pick(0, 39) == 0 ? pick(-10, 32) : width;
            int note = pick(0, 3) == 0 || kind == 3 ? pick(0, 3) : 0;
            note = pick(0, 39) == 0 ? pick(-1, 4) : note;
            Check.due(run + " add(" + p + ", " + width + ", " + note + ")",
                x.add(p, width, note), y.add(p, width, note));
        }
    }

    private static void styleOne(int kind) {
        int s = pick(0, 29) == 0 ? pick(-1, 6) : pick(0, 5);
        int what = pick(0, 29) == 0 ? pick(-1, 12) : pick(0, 11);
        int v = what >= 8 ? pick(0, 1) : what == 6 || what == 7 ? pick(0, 3) : what == 5 ? pick(1, 4)
            : what == 2 ? pick(-5, 10) : pick(0, kind == 1 ? 10 : 4);
        v = pick(0, 29) == 0 ? pick(-6, 11) : v;
        Check.due(run + " style(" + s + ", " + what + ", " + v + ")", x.style(s, what, v), y.style(s, what, v));
    }

    private static void pageOne(int kind) {
        int width = pick(0, 19) == 0 ? pick(18, 82) : pick(20, kind == 0 ? 80 : 30);
        int height = pick(0, 19) == 0 ? pick(8, 62) : pick(10, kind == 0 ? 60 : 14);
        int columns = pick(0, 19) == 0 ? pick(0, 3) : pick(1, 2);
        Check.due(run + " page(" + width + ", " + height + ", " + columns + ")",
            x.page(width, height, columns), y.page(width, height, columns));
    }

    private static void trackOne() {
        boolean on = pick(0, 1) == 1;
        int view = pick(0, 9) == 0 ? pick(-1, 3) : pick(0, 2);
        Check.due(run + " track(" + on + ", " + view + ")", x.track(on, view), y.track(on, view));
    }

    private static void stepOne() {
        int times = pick(0, 9) == 0 ? 22 : pick(1, 4);
        boolean back = pick(0, 2) > 0;
        for (int i = 0; i < times; i++) {
            Check.due(run + " step(" + back + ")", x.step(back), y.step(back));
        }
    }

    private static void compareAll(String when) {
        for (int what = -1; what <= 5; what++) {
            Check.due(when + " total(" + what + ")", x.total(what), y.total(what));
        }
        for (int c = -1; c <= y.total(0); c++) {
            for (int what = -1; what <= 5; what++) {
                Check.due(when + " column(" + c + ", " + what + ")", x.column(c, what), y.column(c, what));
            }
        }
        for (int p = -1; p <= y.total(2); p++) {
            for (int what = -1; what <= 6; what++) {
                Check.due(when + " paragraph(" + p + ", " + what + ")", x.paragraph(p, what), y.paragraph(p, what));
            }
            for (int w = -1; w <= 16; w++) {
                Check.due(when + " word(" + p + ", " + w + ")", x.word(p, w), y.word(p, w));
            }
            for (int k = -1; k <= 16; k++) {
                for (int what = -1; what <= 6; what++) {
                    Check.due(when + " line(" + p + ", " + k + ", " + what + ")",
                        x.line(p, k, what), y.line(p, k, what));
                }
            }
        }
    }
}
