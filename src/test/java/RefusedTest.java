import java.util.ArrayList;
import java.util.List;
import java.util.function.Consumer;
import java.util.function.Function;
import java.util.function.Predicate;

/**
 * A refused call changes nothing, nor does one that only asks: of two objects that were led the
 * same way, one gets the call, and then both must answer the same, whatever is asked or done.
 */
public final class RefusedTest extends Sheet {
    private static Consumer<Counted> built;
    private static String name;

    private RefusedTest() { }

    public static void main(String[] args) {
        of("steps back and again", RefusedTest::mixed);
        refusals(3);
        questions();
        of("as many steps as are kept", RefusedTest::manySteps);
        refusals(2);
        questions();
        of("no paragraphs", y -> { });
        refusalsOfNone();
        of("24 paragraphs", RefusedTest::manyParagraphs);
        refusalsOfFullDocument();
        of("16 words", RefusedTest::manyWords);
        refusalsOfFullParagraph();
        of("all words gone", RefusedTest::allGone);
        refusalsOfGoneWords();
        of("no step left", RefusedTest::allBack);
        refused("step(true)", y -> !y.step(true));
        Check.finish();
    }

    private static void of(String state, Consumer<Counted> build) {
        name = state;
        built = build;
    }

    /** Plain, new and gone words, references and notes, in view 1 with tracking on; 2 steps done back. */
    private static void mixed(Counted y) {
        y.page(21, 11, 2);
        y.style(1, LEFT, 2);
        y.style(1, PAIRS, 1);
        y.style(2, LEVEL, 1);
        y.insert(0, 1);
        y.insert(1, 2);
        y.insert(2, 0);
        y.mark(1, 3);
        y.add(0, 4, 1);
        y.add(0, -4, 0);
        y.add(0, 6, 2);
        y.add(2, 9, 3);
        y.track(true, 1);
        y.drop(0);
        y.add(0, 5, 0);
        y.add(1, 3, 0);
        y.remove(2);
        y.restyle(0, 3);
        y.step(true);
        y.step(true);
    }

    private static void manySteps(Counted y) {
        y.insert(0, 0);
        y.insert(1, 4);
        for (int i = 0; i < 10; i++) {
            y.restyle(1, i % 6);
            y.mark(0, i % 8);
        }
        y.add(0, 7, 1);
        y.add(1, 7, 2);
        y.track(true, 2);
        y.add(1, 8, 0);
    }

    private static void manyParagraphs(Counted y) {
        for (int p = 0; p < 24; p++) {
            y.insert(p, p % 6);
        }
        y.mark(5, 5);
        y.mark(6, 6);
        y.step(true);
    }

    private static void manyWords(Counted y) {
        y.insert(0, 0);
        for (int w = 1; w <= 16; w++) {
            y.add(0, w, w % 4);
        }
        y.mark(0, 5);
        y.step(true);
    }

    private static void allGone(Counted y) {
        y.insert(0, 0);
        y.insert(1, 0);
        y.add(0, 4, 0);
        y.add(0, 5, 0);
        y.track(true, 0);
        y.drop(0);
        y.drop(0);
        y.mark(0, 5);
        y.step(true);
    }

    private static void allBack(Counted y) {
        y.insert(0, 0);
        y.add(0, 4, 0);
        y.step(true);
        y.step(true);
    }

    private static void refusals(int paragraphs) {
        for (int p : new int[] {-1, paragraphs, MIN, MAX}) {
            int beyond = p == paragraphs ? p + 1 : p;
            refused("insert(" + beyond + ", 0)", y -> y.insert(beyond, 0) == -1);
            refused("remove(" + p + ")", y -> y.remove(p) == -1);
            refused("restyle(" + p + ", 2)", y -> !y.restyle(p, 2));
            refused("mark(" + p + ", 2)", y -> !y.mark(p, 2));
            refused("add(" + p + ", 2, 1)", y -> y.add(p, 2, 1) == -1);
            refused("drop(" + p + ")", y -> y.drop(p) == -1);
            refused("resolve(" + p + ", true)", y -> y.resolve(p, true) == -1);
            refused("resolve(" + p + ", false)", y -> y.resolve(p, false) == -1);
        }
        for (int style : new int[] {-1, 6, MIN, MAX}) {
            refused("insert(0, " + style + ")", y -> y.insert(0, style) == -1);
            refused("restyle(0, " + style + ")", y -> !y.restyle(0, style));
            refused("style(" + style + ", 0, 5)", y -> !y.style(style, 0, 5));
        }
        for (int m : new int[] {-2, 8, MIN, MAX}) {
            refused("mark(1, " + m + ")", y -> !y.mark(1, m));
        }
        for (int width : new int[] {0, 31, -9, MIN, MAX}) {
            refused("add(0, " + width + ", 1)", y -> y.add(0, width, 1) == -1);
        }
        for (int note : new int[] {-1, 4, MIN, MAX}) {
            refused("add(0, 3, " + note + ")", y -> y.add(0, 3, note) == -1);
        }
        refusedStyles();
        refusedPages();
        for (int view : new int[] {-1, 3, MIN, MAX}) {
            refused("track(false, " + view + ")", y -> !y.track(false, view));
            refused("track(true, " + view + ")", y -> !y.track(true, view));
        }
    }

    private static void refusedStyles() {
        int[] below = {-1, -1, -6, -1, -1, 0, -1, -1, -1, -1, -1, -1};
        int[] above = {11, 11, 11, 10, 10, 5, 4, 4, 2, 2, 2, 2};
        for (int what : new int[] {-1, 12, MIN, MAX}) {
            refused("style(1, " + what + ", 1)", y -> !y.style(1, what, 1));
        }
        for (int i = 0; i < 12; i++) {
            int what = i;
            refused("style(1, " + what + ", " + below[what] + ")", y -> !y.style(1, what, below[what]));
            refused("style(1, " + what + ", " + above[what] + ")", y -> !y.style(1, what, above[what]));
        }
    }

    private static void refusedPages() {
        refused("page(19, 12, 1)", y -> !y.page(19, 12, 1));
        refused("page(81, 12, 1)", y -> !y.page(81, 12, 1));
        refused("page(30, 9, 1)", y -> !y.page(30, 9, 1));
        refused("page(30, 61, 1)", y -> !y.page(30, 61, 1));
        refused("page(30, 12, 0)", y -> !y.page(30, 12, 0));
        refused("page(30, 12, 3)", y -> !y.page(30, 12, 3));
    }

    private static void questions() {
        for (int i = -1; i <= 6; i++) {
            int n = i;
            refused("asking " + n, y -> {
                y.paragraph(n, n);
                y.paragraph(0, n);
                y.line(n, n, n);
                y.line(0, 0, n);
                y.word(n, n);
                y.word(0, n);
                y.column(n, n);
                y.column(0, n);
                y.total(n);
                return true;
            });
        }
    }

    private static void refusalsOfNone() {
        refused("insert(1, 0)", y -> y.insert(1, 0) == -1);
        refused("remove(0)", y -> y.remove(0) == -1);
        refused("restyle(0, 0)", y -> !y.restyle(0, 0));
        refused("mark(0, 0)", y -> !y.mark(0, 0));
        refused("add(0, 1, 0)", y -> y.add(0, 1, 0) == -1);
        refused("drop(0)", y -> y.drop(0) == -1);
        refused("resolve(0, true)", y -> y.resolve(0, true) == -1);
        refused("resolve(0, false)", y -> y.resolve(0, false) == -1);
        refused("step(true)", y -> !y.step(true));
        refused("step(false)", y -> !y.step(false));
    }

    private static void refusalsOfFullDocument() {
        refused("insert(0, 1)", y -> y.insert(0, 1) == -2);
        refused("insert(12, 1)", y -> y.insert(12, 1) == -2);
        refused("insert(24, 1)", y -> y.insert(24, 1) == -2);
        refused("insert(25, 1)", y -> y.insert(25, 1) == -1);
        refused("insert(0, 6)", y -> y.insert(0, 6) == -1);
        refused("drop(23)", y -> y.drop(23) == -1);
        refused("resolve(23, true)", y -> y.resolve(23, true) == 0);
        refused("remove(24)", y -> y.remove(24) == -1);
    }

    private static void refusalsOfFullParagraph() {
        refused("add(0, 3, 1)", y -> y.add(0, 3, 1) == -2);
        refused("add(0, -1, 0)", y -> y.add(0, -1, 0) == -2);
        refused("add(0, 31, 1)", y -> y.add(0, 31, 1) == -1);
        refused("add(0, 3, 4)", y -> y.add(0, 3, 4) == -1);
        refused("resolve(0, true)", y -> y.resolve(0, true) == 0);
        refused("resolve(0, false)", y -> y.resolve(0, false) == 0);
    }

    private static void refusalsOfGoneWords() {
        refused("drop(0)", y -> y.drop(0) == -1);
        refused("drop(1)", y -> y.drop(1) == -1);
        refused("resolve(1, true)", y -> y.resolve(1, true) == 0);
        refused("resolve(1, false)", y -> y.resolve(1, false) == 0);
    }

    private static void refused(String call, Predicate<Counted> isRefused) {
        start("of " + name + ", " + call + " changes nothing");
        same("what is there", isRefused, Sheet::everything);
        same("the step to be done again", isRefused, y -> afterSteps(y, false, 1));
        same("all steps to be done again", isRefused, y -> afterSteps(y, false, 21));
        same("the step to be done back", isRefused, y -> afterSteps(y, true, 1));
        same("all steps to be done back", isRefused, y -> afterSteps(y, true, 21));
        same("tracking", isRefused, RefusedTest::afterTwoWords);
        same("each view", isRefused, RefusedTest::inEachView);
    }

    private static void same(String what, Predicate<Counted> isRefused, Function<Counted, List<Integer>> look) {
        Counted one = new Counted();
        Counted other = new Counted();
        built.accept(one);
        built.accept(other);
        due(what + ": it is refused", isRefused.test(one), true);
        due(what, look.apply(one), look.apply(other));
    }

    private static List<Integer> afterSteps(Counted y, boolean back, int steps) {
        List<Integer> answers = new ArrayList<>();
        for (int i = 0; i < steps; i++) {
            answers.add(y.step(back) ? 1 : 0);
        }
        answers.addAll(everything(y));
        return answers;
    }

    private static List<Integer> afterTwoWords(Counted y) {
        List<Integer> answers = new ArrayList<>();
        answers.add(y.drop(0));
        answers.add(y.add(0, 2, 0));
        answers.add(y.insert(0, 0));
        answers.add(y.add(0, 2, 0));
        answers.add(y.paragraph(0, 5));
        answers.add(y.paragraph(1, 5));
        return answers;
    }

    private static List<Integer> inEachView(Counted y) {
        List<Integer> answers = new ArrayList<>();
        for (int view = 0; view <= 2; view++) {
            y.track(false, view);
            for (int w = 0; w <= 4; w++) {
                answers.add(y.word(0, w));
                answers.add(y.word(1, w));
            }
        }
        return answers;
    }
}
