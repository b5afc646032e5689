/** For each promise ordinary inputs, edges and wrong inputs, with answers worked out by hand. */
public final class PromiseTest extends Sheet {
    private PromiseTest() { }

    public static void main(String[] args) {
        promise1New();
        promise2Insert();
        promise3Remove();
        promise4Restyle();
        promise5Mark();
        promise6Add();
        promise7Drop();
        promise8Style();
        promise9Page();
        promise10Track();
        promise11Resolve();
        promise12Step();
        promise12StepBringsEverythingBack();
        promise13Paragraph();
        promise13Labels();
        promise14LineBreaks();
        promise14Align();
        promise14Gaps();
        promise14Whole();
        promise14Pairs();
        promise14Next();
        promise14Break();
        promise15Word();
        promise16Column();
        promise17Total();
        promise17Rounds();
        promise17FourRounds();
        promise18OrderAndLimits();
        Check.finish();
    }

    private static void promise1New() {
        start("1 new");
        due("columns", x.total(0), 0);
        due("rounds", x.total(1), 1);
        due("paragraphs", x.total(2), 0);
        due("steps back", x.total(3), 0);
        due("steps again", x.total(4), 0);
        due("no column", x.column(0, 0), -1);
        for (int p = 0; p < 21; p++) {
            x.insert(p, p % 6);
        }
        due("page is 40 wide", x.line(0, 0, 5), 40);
        due("page is 20 high", x.column(0, 2), 20);
        due("the rest is on the next", x.column(1, 2), 1);
        x.add(20, 1, 0);
        due("1 column on a page", x.word(20, 0), 0);
        due("tracking is off", x.paragraph(20, 5), 0);
    }

    private static void promise2Insert() {
        start("2 insert");
        due("first", x.insert(0, 1), 1);
        due("before it", x.insert(0, 2), 2);
        due("between", x.insert(1, 3), 3);
        due("at the end", x.insert(3, 5), 4);
        due("style 0", x.paragraph(0, 2), 2);
        due("style 1", x.paragraph(1, 2), 3);
        due("style 2", x.paragraph(2, 2), 1);
        due("style 3", x.paragraph(3, 2), 5);
        due("p below", x.insert(-1, 0), -1);
        due("p above", x.insert(5, 0), -1);
        due("p far below", x.insert(MIN, 0), -1);
        due("p far above", x.insert(MAX, 0), -1);
        due("style below", x.insert(0, -1), -1);
        due("style above", x.insert(0, 6), -1);
        due("wrong ones are no steps", x.total(3), 4);
        x.mark(1, 4);
        x.add(1, 5, 1);
        due("before a full one", x.insert(1, 0), 5);
        due("no words", x.paragraph(1, 4), 0);
        due("no mark", x.paragraph(1, 3), -1);
        due("moved mark", x.paragraph(2, 3), 4);
        due("moved word", x.paragraph(2, 4), 1);
        x.remove(2);
        x.insert(2, 0);
        due("nothing left of a removed one", x.paragraph(2, 4), 0);
        due("nor its mark", x.paragraph(2, 3), -1);
    }

    private static void promise3Remove() {
        start("3 remove");
        due("none yet", x.remove(0), -1);
        x.insert(0, 0);
        x.insert(1, 1);
        x.insert(2, 2);
        x.mark(2, 6);
        x.add(2, 7, 0);
        x.add(2, 8, 0);
        due("above", x.remove(3), -1);
        due("below", x.remove(-1), -1);
        due("far", x.remove(MAX), -1);
        due("middle", x.remove(1), 2);
        due("its style goes", x.paragraph(1, 2), 2);
        due("mark moves", x.paragraph(1, 3), 6);
        due("words move", x.paragraph(1, 4), 2);
        due("word moves", x.word(1, 1), 8);
        due("last", x.remove(1), 1);
        due("only", x.remove(0), 0);
        due("none left", x.remove(0), -1);
        due("nothing shown", x.total(0), 0);
    }

    private static void promise4Restyle() {
        start("4 restyle");
        due("none", x.restyle(0, 0), false);
        x.insert(0, 0);
        x.insert(1, 0);
        x.add(1, 3, 0);
        x.style(5, 0, 7);
        due("done", x.restyle(1, 5), true);
        due("style", x.paragraph(1, 2), 5);
        due("other stays", x.paragraph(0, 2), 0);
        due("it is laid out by it", x.word(1, 0), 7);
        due("to the same", x.restyle(1, 5), true);
        due("that is a step", x.total(3), 6);
        due("p above", x.restyle(2, 0), false);
        due("p below", x.restyle(-1, 0), false);
        due("style above", x.restyle(0, 6), false);
        due("style below", x.restyle(0, -1), false);
        due("wrong ones are no steps", x.total(3), 6);
    }

    private static void promise5Mark() {
        start("5 mark");
        due("none", x.mark(0, 0), false);
        x.insert(0, 0);
        due("none at first", x.paragraph(0, 3), -1);
        due("least", x.mark(0, 0), true);
        due("is 0", x.paragraph(0, 3), 0);
        due("greatest", x.mark(0, 7), true);
        due("is 7", x.paragraph(0, 3), 7);
        due("above", x.mark(0, 8), false);
        due("below", x.mark(0, -2), false);
        due("far", x.mark(0, MIN), false);
        due("p above", x.mark(1, 0), false);
        due("p below", x.mark(-1, 0), false);
        due("still 7", x.paragraph(0, 3), 7);
        due("taken away", x.mark(0, -1), true);
        due("is none", x.paragraph(0, 3), -1);
        due("steps", x.total(3), 4);
    }

    private static void promise6Add() {
        start("6 add");
        due("none", x.add(0, 1, 0), -1);
        x.insert(0, 0);
        due("least", x.add(0, 1, 0), 1);
        due("greatest", x.add(0, 30, 3), 2);
        due("reference to 0", x.add(0, -1, 0), 3);
        due("reference to 7", x.add(0, -8, 1), 4);
        due("0 wide", x.add(0, 0, 0), -1);
        due("31 wide", x.add(0, 31, 0), -1);
        due("reference to 8", x.add(0, -9, 0), -1);
        due("far", x.add(0, MIN, 0), -1);
        due("note below", x.add(0, 1, -1), -1);
        due("note above", x.add(0, 1, 4), -1);
        due("p below", x.add(-1, 1, 0), -1);
        due("p above", x.add(1, 1, 0), -1);
        due("count", x.paragraph(0, 4), 4);
        due("notes", x.column(0, 3), 4);
        due("behind the first", x.word(0, 1), 2);
        due("behind the second", x.word(0, 2), 33);
        due("a reference is 1 wide", x.word(0, 3), 35);
        due("plain", x.paragraph(0, 5), 0);
        x.track(true, 0);
        due("tracked", x.add(0, 2, 0), 5);
        due("is new", x.paragraph(0, 5), 1);
        x.track(true, 2);
        due("and hidden in view 2", x.word(0, 4), -100);
    }

    private static void promise7Drop() {
        start("7 drop");
        due("no paragraph", x.drop(0), -1);
        x.insert(0, 0);
        due("no word", x.drop(0), -1);
        for (int i = 1; i <= 4; i++) {
            x.add(0, i, 0);
        }
        due("untracked", x.drop(0), 3);
        due("it is no more", x.word(0, 3), -1);
        x.track(true, 0);
        due("tracked", x.drop(0), 3);
        due("is gone", x.paragraph(0, 5), 1);
        due("but shown", x.word(0, 2), 5);
        x.add(0, 9, 0);
        due("a new one goes wholly", x.drop(0), 3);
        due("it is no more", x.word(0, 3), -1);
        due("the next before those gone", x.drop(0), 3);
        due("two gone", x.paragraph(0, 5), 2);
        x.track(false, 1);
        due("view 1 hides", x.word(0, 1), -100);
        due("untracked before those gone", x.drop(0), 2);
        due("those gone moved", x.paragraph(0, 5), 2);
        due("none that is not gone", x.drop(0), -1);
        x.track(true, 0);
        due("nor tracked", x.drop(0), -1);
        due("the second one was 2 wide", x.word(0, 1), 3);
        due("p below", x.drop(-1), -1);
        due("p above", x.drop(1), -1);
    }

    private static void promise8Style() {
        int[] least = {0, 0, -5, 0, 0, 1, 0, 0, 0, 0, 0, 0};
        int[] greatest = {10, 10, 10, 9, 9, 4, 3, 3, 1, 1, 1, 1};
        for (int what = 0; what < 12; what++) {
            start("8 style " + what);
            due("least", x.style(0, what, least[what]), true);
            due("greatest", x.style(5, what, greatest[what]), true);
            due("below", x.style(0, what, least[what] - 1), false);
            due("above", x.style(0, what, greatest[what] + 1), false);
            due("far", x.style(0, what, MAX), false);
            due("steps", x.total(3), 2);
        }
        start("8 style");
        due("what below", x.style(0, -1, 0), false);
        due("what above", x.style(0, 12, 0), false);
        due("style below", x.style(-1, 0, 0), false);
        due("style above", x.style(6, 0, 0), false);
        x.insert(0, 2);
        x.insert(1, 3);
        due("height", x.style(2, 5, 4), true);
        due("its paragraph has it", x.line(1, 0, 3), 4);
        due("the other style has not", x.column(0, 4), 5);
    }

    private static void promise9Page() {
        start("9 page");
        x.insert(0, 0);
        due("least", x.page(20, 10, 1), true);
        due("room", x.line(0, 0, 5), 20);
        due("greatest", x.page(80, 60, 2), true);
        due("half of it", x.line(0, 0, 5), 39);
        due("odd", x.page(21, 10, 2), true);
        due("downwards", x.line(0, 0, 5), 9);
        due("width below", x.page(19, 10, 1), false);
        due("width above", x.page(81, 10, 1), false);
        due("height below", x.page(20, 9, 1), false);
        due("height above", x.page(20, 61, 1), false);
        due("columns below", x.page(20, 10, 0), false);
        due("columns above", x.page(20, 10, 3), false);
        due("nothing changed", x.line(0, 0, 5), 9);
        due("steps", x.total(3), 4);
        smallPage();
        for (int p = 1; p < 11; p++) {
            x.insert(p, 0);
        }
        due("ten lines", x.column(0, 2), 10);
        due("the eleventh", x.line(10, 0, 2), 1);
    }

    private static void promise10Track() {
        start("10 track");
        x.insert(0, 0);
        x.add(0, 3, 0);
        x.add(0, 4, 0);
        due("on", x.track(true, 0), true);
        x.add(0, 5, 0);
        due("view below", x.track(false, -1), false);
        due("view above", x.track(false, 3), false);
        x.add(0, 6, 0);
        due("it stayed on", x.paragraph(0, 5), 2);
        due("and view 0", x.word(0, 3), 15);
        due("no step", x.total(3), 5);
        x.drop(0);
        x.drop(0);
        x.drop(0);
        x.add(0, 7, 0);
        due("view 0 shows one gone", x.word(0, 1), 4);
        due("view 0 shows one new", x.word(0, 2), 9);
        x.track(true, 1);
        due("view 1 hides one gone", x.word(0, 1), -100);
        due("view 1 shows one new", x.word(0, 2), 4);
        due("two words", x.line(0, 0, 1), 2);
        x.track(true, 2);
        due("view 2 shows one gone", x.word(0, 1), 4);
        due("view 2 hides one new", x.word(0, 2), -100);
        x.step(true);
        due("a step leaves the view", x.word(0, 1), 4);
        due("track is no step, so one can be again", x.total(4), 1);
        x.track(false, 0);
        due("nor ends it what can be done again", x.total(4), 1);
    }

    private static void promise11Resolve() {
        for (int accept = 0; accept < 2; accept++) {
            start("11 resolve " + accept);
            due("none", x.resolve(0, accept == 1), -1);
            x.insert(0, 0);
            x.insert(1, 0);
            x.add(0, 1, 0);
            x.add(0, 2, 0);
            x.add(0, 3, 0);
            due("nothing tracked", x.resolve(0, accept == 1), 0);
            due("that is no step", x.total(3), 5);
            x.track(true, 0);
            x.drop(0);
            x.drop(0);
            x.add(0, 9, 0);
            x.add(1, 9, 0);
            due("2 gone, 1 new", x.resolve(0, accept == 1), 3);
            due("words", x.paragraph(0, 4), accept == 1 ? 2 : 3);
            due("none tracked any more", x.paragraph(0, 5), 0);
            due("the other paragraph stays", x.paragraph(1, 5), 1);
            due("the first one", x.word(0, 0), 0);
            due("the second one", x.word(0, 1), 2);
            due("the third one", x.word(0, 2), accept == 1 ? -1 : 5);
            x.track(true, accept == 1 ? 2 : 1);
            due("what is left is plain", x.word(0, 1), 2);
            due("again", x.resolve(0, accept == 1), 0);
            due("a step", x.total(3), 10);
            due("p below", x.resolve(-1, accept == 1), -1);
            due("p above", x.resolve(2, accept == 1), -1);
            due("step back", x.step(true), true);
            due("tracked again", x.paragraph(0, 5), 3);
            x.drop(0);
            x.drop(0);
            due("all gone", x.resolve(0, accept == 1), 3);
            due("from the first one on", x.paragraph(0, 4), accept == 1 ? 0 : 3);
            due("and settled", x.paragraph(0, 5), 0);
        }
    }

    private static void promise12Step() {
        start("12 step");
        due("none back", x.step(true), false);
        due("none again", x.step(false), false);
        x.insert(0, 0);
        for (int i = 0; i < 22; i++) {
            x.restyle(0, i % 6);
        }
        due("20 are kept", x.total(3), 20);
        for (int i = 20; i >= 1; i--) {
            due("back " + i, x.step(true), true);
            due("style before " + i, x.paragraph(0, 2), i % 6);
        }
        due("not the 21st", x.step(true), false);
        due("again", x.total(4), 20);
        for (int i = 2; i < 22; i++) {
            due("again " + i, x.step(false), true);
            due("style after " + i, x.paragraph(0, 2), i % 6);
        }
        due("no more", x.step(false), false);
        due("all back", x.total(3), 20);
        x.step(true);
        x.step(true);
        x.insert(-1, 0);
        x.resolve(0, true);
        x.track(true, 1);
        x.mark(0, 8);
        due("what is no step ends nothing", x.total(4), 2);
        due("again the earlier first", x.step(false), true);
        due("style", x.paragraph(0, 2), 20 % 6);
        due("another step", x.mark(0, 1), true);
        due("ends it", x.total(4), 0);
        due("none again", x.step(false), false);
        due("20 at most", x.total(3), 20);
    }

    private static void promise12StepBringsEverythingBack() {
        start("12 step, all kinds");
        x.insert(0, 0);
        x.add(0, 4, 2);
        x.style(0, 0, 3);
        due("style", x.word(0, 0), 3);
        x.step(true);
        due("style back", x.word(0, 0), 0);
        x.page(30, 12, 1);
        due("page", x.line(0, 0, 5), 26);
        x.step(true);
        due("page back", x.line(0, 0, 5), 36);
        x.step(false);
        due("page again", x.line(0, 0, 5), 26);
        x.mark(0, 3);
        x.step(true);
        due("mark back", x.paragraph(0, 3), -1);
        x.remove(0);
        x.step(true);
        due("remove back", x.paragraph(0, 4), 1);
        due("with its notes", x.column(0, 3), 2);
        x.step(false);
        due("remove again", x.total(2), 0);
        x.step(true);
        x.track(true, 0);
        x.add(0, 5, 0);
        x.drop(0);
        x.drop(0);
        x.track(false, 0);
        x.step(true);
        x.step(true);
        x.step(true);
        due("as before tracking", x.paragraph(0, 5), 0);
        x.step(false);
        due("done again it is new, though tracking is off", x.paragraph(0, 5), 1);
        x.step(false);
        x.step(false);
        due("and the other is gone", x.paragraph(0, 4), 1);
        due("not away", x.paragraph(0, 5), 1);
    }

    private static void promise13Paragraph() {
        start("13 paragraph");
        due("none", x.paragraph(0, 0), -2);
        x.insert(0, 4);
        due("a line without words", x.paragraph(0, 0), 1);
        due("no label", x.paragraph(0, 1), 0);
        due("style", x.paragraph(0, 2), 4);
        due("mark", x.paragraph(0, 3), -1);
        due("words", x.paragraph(0, 4), 0);
        due("tracked", x.paragraph(0, 5), 0);
        due("what above", x.paragraph(0, 6), -2);
        due("what below", x.paragraph(0, -1), -2);
        due("p above", x.paragraph(1, 0), -2);
        due("p below", x.paragraph(-1, 3), -2);
        due("far", x.paragraph(MIN, MAX), -2);
        for (int i = 0; i < 16; i++) {
            x.add(0, 30, 0);
        }
        due("a line for each", x.paragraph(0, 0), 16);
        x.track(true, 1);
        for (int i = 0; i < 16; i++) {
            x.drop(0);
        }
        due("none shown, one line", x.paragraph(0, 0), 1);
        due("words with those gone", x.paragraph(0, 4), 16);
        due("all gone", x.paragraph(0, 5), 16);
    }

    private static void promise13Labels() {
        start("13 labels");
        x.style(1, 7, 1);
        x.style(2, 7, 2);
        x.style(3, 7, 3);
        int[] styles = {3, 2, 0, 3, 1, 3, 2, 3, 3, 1, 2};
        int[] labels = {1, 100, 0, 101, 10000, 10001, 10100, 10101, 10102, 20000, 20100};
        for (int p = 0; p < styles.length; p++) {
            x.insert(p, styles[p]);
        }
        for (int p = 0; p < styles.length; p++) {
            due("label " + p, x.paragraph(p, 1), labels[p]);
        }
        due("0.0.1 is 6 wide", x.line(0, 0, 4), 6);
        due("0.1 is 4 wide", x.line(1, 0, 4), 4);
        due("none", x.line(2, 0, 4), 0);
        due("2 is 2 wide", x.line(9, 0, 4), 2);
        for (int p = 0; p < 8; p++) {
            x.insert(0, 1);
        }
        due("tenth", x.paragraph(17, 1), 100000);
        due("10 is 3 wide", x.line(17, 0, 4), 3);
        due("10.1 is 5 wide", x.line(18, 0, 4), 5);
        due("room behind it", x.line(18, 0, 5), 35);
        x.remove(0);
        due("ninth again", x.paragraph(16, 1), 90000);
    }

    private static void promise14LineBreaks() {
        start("14 line breaks");
        smallPage();
        x.style(0, 0, 3);
        x.style(0, 1, 2);
        x.style(0, 2, -5);
        due("none", x.line(0, 0, 0), -1);
        x.insert(0, 0);
        due("empty: first word", x.line(0, 0, 0), 0);
        due("empty: words", x.line(0, 0, 1), 0);
        due("empty: begins below 0", x.line(0, 0, 4), -2);
        due("empty: slack is the room", x.line(0, 0, 5), 20);
        x.add(0, 9, 0);
        x.add(0, 10, 0);
        due("both just have room", x.paragraph(0, 0), 1);
        due("slack", x.line(0, 0, 5), 0);
        x.add(0, 1, 0);
        x.add(0, 14, 0);
        x.add(0, 30, 0);
        x.add(0, 1, 0);
        due("lines", x.paragraph(0, 0), 5);
        due("first word of line 1", x.line(0, 1, 0), 2);
        due("one word: 1 and 14 with 1 between have no room", x.line(0, 1, 1), 1);
        due("begins at left", x.line(0, 1, 4), 3);
        due("slack", x.line(0, 1, 5), 14);
        due("too wide: slack 0", x.line(0, 3, 5), 0);
        due("too wide: alone", x.line(0, 3, 1), 1);
        due("fifth line", x.line(0, 4, 3), 4);
        due("k above", x.line(0, 5, 0), -1);
        due("k below", x.line(0, -1, 0), -1);
        due("what above", x.line(0, 0, 6), -1);
        due("what below", x.line(0, 0, -1), -1);
        due("p above", x.line(1, 0, 0), -1);
        due("p below", x.line(-1, 0, 0), -1);
        due("far", x.line(MAX, MAX, MIN), -1);
        x.style(0, 0, 10);
        x.style(0, 1, 10);
        x.style(0, 2, 10);
        due("room is 1 at least", x.line(0, 5, 5), 0);
        due("begins behind the page", x.line(0, 0, 4), 20);
        x.insert(1, 0);
        due("room 1 without words", x.line(1, 0, 5), 1);
        x.insert(2, 1);
        x.add(2, 3, 0);
        x.add(2, 4, 0);
        x.track(true, 1);
        x.drop(2);
        x.drop(2);
        due("words none of which is shown", x.line(2, 0, 0), 2);
        x.add(2, 5, 0);
        due("the first that is shown", x.line(2, 0, 0), 2);
        due("one", x.line(2, 0, 1), 1);
    }

    private static void promise14Align() {
        int[] begins = {0, 3, 1, 0};
        int[][] words = {{0, 6, 13}, {3, 9, 16}, {1, 7, 14}, {0, 8, 16}};
        for (int align = 0; align < 4; align++) {
            start("14 align " + align);
            smallPage();
            x.style(0, 6, align);
            x.insert(0, 0);
            x.add(0, 5, 0);
            x.add(0, 6, 0);
            x.add(0, 4, 0);
            x.add(0, 3, 0);
            x.add(0, 3, 0);
            due("begins", x.line(0, 0, 4), begins[align]);
            due("slack", x.line(0, 0, 5), 3);
            for (int w = 0; w < 3; w++) {
                due("word " + w, x.word(0, w), words[align][w]);
            }
            due("last line", x.line(0, 1, 5), 13);
            int last = align == 1 ? 13 : align == 2 ? 6 : 0;
            due("last line begins", x.line(0, 1, 4), last);
            due("its second word", x.word(0, 4), 100 + last + 4);
            x.insert(1, 0);
            x.add(1, 18, 0);
            x.add(1, 18, 0);
            int single = align == 1 ? 2 : align == 2 ? 1 : 0;
            due("a line of one word", x.word(1, 0), single);
            x.insert(2, 0);
            due("a line of none", x.line(2, 0, 4), align == 1 ? 20 : align == 2 ? 10 : 0);
        }
        start("14 align within left and right");
        smallPage();
        for (int align = 0; align < 4; align++) {
            x.style(align, 0, 4);
            x.style(align, 1, 1);
            x.style(align, 6, align);
            x.insert(align, align);
            x.add(align, 4, 0);
            x.add(align, 5, 0);
            x.add(align, 15, 0);
            due("two words", x.line(align, 0, 1), 2);
            due("slack", x.line(align, 0, 5), 5);
            due("begins", x.line(align, 0, 4), align == 1 ? 9 : align == 2 ? 6 : 4);
            due("the second", x.word(align, 1), align == 1 ? 14 : align == 2 ? 11 : align == 3 ? 14 : 9);
        }

        start("14 align 3, no remainder");
        smallPage();
        x.style(0, 6, 3);
        x.insert(0, 0);
        x.add(0, 5, 0);
        x.add(0, 6, 0);
        x.add(0, 5, 0);
        x.add(0, 3, 0);
        due("second", x.word(0, 1), 7);
        due("third", x.word(0, 2), 15);
    }

    private static void promise14Gaps() {
        start("14 gaps");
        smallPage();
        x.style(1, 3, 9);
        x.style(1, 4, 2);
        x.style(2, 3, 1);
        x.style(2, 4, 3);
        x.style(3, 3, 3);
        x.insert(0, 1);
        due("nothing at the beginning", x.line(0, 0, 3), 0);
        due("nor after the last", x.column(0, 4), 1);
        x.insert(1, 2);
        due("after is greater", x.line(1, 0, 3), 3);
        x.insert(2, 3);
        due("both the same", x.line(2, 0, 3), 7);
        x.insert(3, 2);
        due("before", x.line(3, 0, 3), 9);
        due("filled to the end", x.column(0, 4), 10);
        x.insert(4, 2);
        due("next column", x.line(4, 0, 2), 1);
        due("at its beginning", x.line(4, 0, 3), 0);
        x.insert(5, 1);
        due("what is left free has no place", x.line(5, 0, 2), 2);
        x.restyle(4, 0);
        x.restyle(5, 1);
        x.style(1, 3, 8);
        due("now it has", x.line(5, 0, 2), 1);
        due("at the foot", x.line(5, 0, 3), 9);
    }

    private static void promise14Whole() {
        start("14 whole");
        smallPage();
        x.style(1, 8, 1);
        paragraphOfLines(0, 7);
        paragraphOfLines(1, 3);
        due("has place", x.line(1, 0, 2), 0);
        x.add(1, 20, 0);
        due("has none", x.line(1, 0, 2), 1);
        x.drop(1);
        x.drop(1);
        x.add(1, 20, 1);
        due("nor with a note", x.line(1, 0, 2), 1);
        due("it begins there", x.line(1, 0, 3), 0);
        due("the note is told", x.column(1, 3), 1);
        paragraphOfLines(0, 1);
        due("those behind follow", x.line(2, 0, 3), 3);
        for (int i = 3; i < 12; i++) {
            x.add(1, 20, 0);
        }
        due("longer than a column begins in a new one", x.line(1, 0, 2), 1);
        due("nine lines and the note", x.column(1, 2), 9);
        due("and goes on", x.line(1, 9, 2), 2);
        x.restyle(1, 0);
        due("without it, it begins here", x.line(1, 0, 2), 0);
        due("and goes on", x.line(1, 2, 2), 1);
    }

    private static void promise14Pairs() {
        start("14 pairs");
        smallPage();
        x.style(1, 11, 1);
        paragraphOfLines(0, 6);
        paragraphOfLines(1, 5);
        due("fourth line would be alone with the last one behind", x.line(1, 2, 2), 0);
        due("so it goes with it", x.line(1, 3, 2), 1);
        due("the last", x.line(1, 4, 3), 1);
        x.drop(1);
        due("all have place", x.line(1, 3, 2), 0);
        x.add(0, 20, 0);
        due("two and two", x.line(1, 1, 2), 0);
        due("two and two", x.line(1, 2, 2), 1);
        x.add(0, 20, 0);
        due("just two of four", x.line(1, 1, 2), 0);
        x.add(0, 20, 0);
        due("one of four is none", x.line(1, 0, 2), 1);
        x.drop(0);
        x.drop(1);
        due("three stay together", x.line(1, 0, 2), 1);
        x.drop(0);
        due("if there is place", x.line(1, 2, 2), 0);

        start("14 pairs, longer than a column");
        smallPage();
        x.style(1, 11, 1);
        x.style(2, 11, 1);
        x.style(2, 8, 1);
        paragraphOfLines(1, 11);
        due("two on the second", x.column(1, 2), 2);
        x.restyle(0, 2);
        due("whole: as many as fit", x.column(1, 2), 1);

        start("14 pairs, last but one at the beginning");
        smallPage();
        x.style(1, 11, 1);
        paragraphOfLines(1, 3);
        x.add(0, 20, 3);
        x.add(0, 18, 3);
        x.add(0, 1, 3);
        due("last but one fits, the last one not behind it", x.line(0, 3, 2), 1);
        due("nor in the new column", x.line(0, 4, 2), 2);
        x.style(1, 5, 2);
        due("does not fit", x.line(0, 3, 2), 1);
        due("the last one does not behind it, but there is no empty column", x.line(0, 4, 2), 2);
        due("three columns", x.total(0), 3);
    }

    private static void promise14Next() {
        start("14 next");
        smallPage();
        x.style(1, 9, 1);
        x.style(2, 11, 1);
        x.style(3, 8, 1);
        paragraphOfLines(0, 6);
        paragraphOfLines(1, 1);
        paragraphOfLines(1, 1);
        paragraphOfLines(2, 2);
        due("all have place", x.line(3, 1, 2), 0);
        x.style(2, 3, 1);
        due("not with what is left free within", x.line(1, 0, 2), 1);
        due("all go", x.line(3, 0, 2), 1);
        due("with it", x.line(3, 0, 3), 3);
        x.style(2, 3, 0);
        x.style(1, 3, 1);
        due("nor after what is left free", x.line(1, 0, 2), 1);
        due("that is not left at the beginning", x.line(1, 0, 3), 0);
        x.style(1, 3, 0);
        x.add(3, 20, 0);
        x.add(3, 20, 0);
        due("only the head of the last one", x.line(1, 0, 2), 0);
        due("its rest goes on", x.line(3, 2, 2), 1);
        x.restyle(3, 3);
        due("the whole of it", x.line(1, 0, 2), 1);
        for (int i = 4; i < 10; i++) {
            x.add(3, 20, 0);
        }
        due("too much for a column: head alone", x.line(1, 0, 2), 0);
        due("the second goes with the last, that is too much too", x.line(2, 0, 2), 0);
        due("the last has no place", x.line(3, 0, 2), 1);
        x.drop(3);
        due("the second one and the last are a column just", x.line(1, 0, 2), 0);
        due("and go together", x.line(2, 0, 2), 1);
        due("top", x.line(3, 0, 3), 1);

        start("14 next, what is left free within is that of the next one");
        smallPage();
        x.style(1, 9, 1);
        x.style(2, 3, 2);
        x.style(3, 3, 9);
        paragraphOfLines(0, 6);
        paragraphOfLines(1, 1);
        paragraphOfLines(2, 1);
        paragraphOfLines(3, 1);
        due("just has place", x.line(1, 0, 2), 0);
        due("with the next one", x.line(2, 0, 3), 9);
        due("not the one behind", x.line(3, 0, 2), 1);
        x.add(0, 20, 0);
        due("has none", x.line(1, 0, 2), 1);

        start("14 head without the notes of further lines");
        smallPage();
        paragraphOfLines(0, 9);
        paragraphOfLines(0, 1);
        x.add(1, 20, 3);
        due("the first line has place", x.line(1, 0, 2), 0);
        due("the second one has none", x.line(1, 1, 2), 1);

        start("14 next, the last paragraph");
        smallPage();
        x.style(1, 9, 1);
        paragraphOfLines(0, 9);
        paragraphOfLines(1, 3);
        due("its head alone", x.line(1, 0, 2), 0);
        due("the rest", x.line(1, 1, 2), 1);
        paragraphOfLines(0, 1);
        due("not if there is a next one", x.line(1, 0, 2), 1);
    }

    private static void promise14Break() {
        start("14 break");
        x.style(1, 10, 1);
        x.insert(0, 1);
        due("the first column is empty", x.line(0, 0, 2), 0);
        x.insert(1, 1);
        x.insert(2, 0);
        due("a new one", x.line(1, 0, 2), 1);
        due("without it not", x.line(2, 0, 2), 1);
        due("columns", x.total(0), 2);
    }

    private static void promise15Word() {
        start("15 word");
        due("none", x.word(0, 0), -1);
        x.page(21, 10, 2);
        x.style(1, 10, 1);
        x.style(1, 2, -4);
        for (int p = 0; p < 3; p++) {
            x.insert(p, 1);
            x.add(p, 9, 0);
            x.add(p, 3, 0);
        }
        due("below 0", x.word(0, 0), -4);
        due("behind it", x.word(0, 1), 6);
        due("second column begins at 11", x.word(1, 0), 7);
        due("third one on the next page", x.word(2, 0), -4);
        x.add(1, 5, 0);
        due("a second line", x.word(1, 2), 111);
        x.add(0, 5, 0);
        due("in the first column", x.word(0, 2), 100);
        due("w above", x.word(0, 3), -1);
        due("w below", x.word(0, -1), -1);
        due("p above", x.word(3, 0), -1);
        due("p below", x.word(-1, 0), -1);
        due("far", x.word(MIN, MAX), -1);
        x.track(true, 1);
        x.drop(0);
        due("hidden", x.word(0, 2), PageSetter.HIDDEN);
        due("HIDDEN", PageSetter.HIDDEN, -100);
    }

    private static void promise16Column() {
        start("16 column");
        smallPage();
        due("empty", x.column(0, 0), -1);
        x.insert(0, 0);
        x.add(0, 18, 3);
        x.add(0, 18, 3);
        x.add(0, 18, 1);
        due("all fit just", x.column(0, 2), 3);
        x.drop(0);
        x.add(0, 18, 2);
        due("first paragraph", x.column(0, 0), 0);
        due("first line", x.column(0, 1), 0);
        due("lines", x.column(0, 2), 2);
        due("notes", x.column(0, 3), 6);
        due("filled", x.column(0, 4), 2);
        due("next: paragraph", x.column(1, 0), 0);
        due("next: line", x.column(1, 1), 2);
        due("next: lines", x.column(1, 2), 1);
        due("next: notes", x.column(1, 3), 2);
        due("next: filled", x.column(1, 4), 1);
        x.insert(1, 0);
        x.style(0, 4, 4);
        due("filled with what is left free", x.column(1, 4), 6);
        due("no more columns", x.column(2, 0), -1);
        due("what above", x.column(0, 5), -1);
        due("what below", x.column(0, -1), -1);
        due("c below", x.column(-1, 0), -1);
        due("far", x.column(MAX, 0), -1);

        start("16 column, a line higher than the page");
        smallPage();
        x.insert(0, 0);
        x.insert(1, 0);
        for (int i = 0; i < 6; i++) {
            x.add(1, 1, 3);
        }
        x.insert(2, 0);
        due("it begins a column", x.line(1, 0, 2), 1);
        due("its notes", x.column(1, 3), 18);
        due("its height", x.column(1, 4), 1);
        due("nothing behind it", x.line(2, 0, 2), 2);
        due("columns", x.total(0), 3);
    }

    private static void promise17Total() {
        start("17 total");
        due("what below", x.total(-1), -1);
        due("what above", x.total(5), -1);
        due("far", x.total(MIN), -1);
        x.style(1, 10, 1);
        x.insert(0, 1);
        x.insert(1, 1);
        x.insert(2, 1);
        x.step(true);
        due("columns", x.total(0), 2);
        due("rounds", x.total(1), 1);
        due("paragraphs", x.total(2), 2);
        due("back", x.total(3), 3);
        due("again", x.total(4), 1);
    }

    /** Paragraphs of style 1 begin a new page each. */
    private static void promise17Rounds() {
        start("17 two rounds");
        smallPage();
        x.style(1, 10, 1);
        for (int p = 0; p < 10; p++) {
            x.insert(p, 1);
        }
        x.add(0, 18, 0);
        x.add(0, -1 - 5, 0);
        x.mark(8, 5);
        due("page 9", x.total(1), 1);
        due("has room", x.paragraph(0, 0), 1);
        x.mark(8, -1);
        due("no such mark", x.total(1), 1);
        x.mark(9, 5);
        due("page 10", x.total(1), 2);
        due("has no room", x.paragraph(0, 0), 2);
        x.mark(3, 5);
        due("the first one with it counts", x.total(1), 1);
        x.mark(3, 4);
        x.mark(0, 5);
        due("be it the very first", x.total(1), 1);
        x.mark(0, -1);
        x.page(20, 10, 2);
        due("column 9 is on page 5", x.total(1), 1);
        x.page(20, 10, 1);
        x.mark(9, 6);
        due("a mark nothing refers to", x.total(1), 1);

        x.mark(9, 5);
        x.drop(0);
        due("nothing refers to it any more", x.total(1), 1);
        x.add(1, -1 - 5, 0);
        due("a paragraph of the reference alone", x.total(1), 2);
        due("it is 2 wide", x.line(1, 0, 5), 18);
        x.step(true);
        x.insert(10, 0);
        x.add(10, -1 - 5, 0);
        x.remove(10);
        due("nor does a paragraph that went", x.total(1), 1);

        start("17 pages 99 and 100");
        smallPage();
        x.style(0, 5, 4);
        for (int i = 0; i < 98; i++) {
            if (i % 16 == 0) {
                x.insert(i / 16, 0);
            }
            x.add(i / 16, 20, 3);
        }
        x.insert(7, 0);
        x.mark(7, 0);
        x.add(7, -1, 3);
        due("page 99", x.line(7, 0, 2), 98);
        due("2 digits", x.line(7, 0, 5), 18);
        x.add(6, 20, 3);
        due("page 100", x.line(7, 0, 2), 99);
        due("3 digits", x.line(7, 0, 5), 17);

        start("17 three rounds");
        smallPage();
        x.style(1, 10, 1);
        for (int p = 0; p < 9; p++) {
            x.insert(p, 1);
        }
        x.add(8, 18, 0);
        x.add(8, -1, 0);
        paragraphOfLines(0, 8);
        paragraphOfLines(0, 1);
        x.mark(10, 1);
        paragraphOfLines(1, 1);
        x.mark(11, 0);
        paragraphOfLines(0, 0);
        x.add(12, 18, 0);
        x.add(12, -2, 0);
        due("the first reference moves what the second one tells", x.total(1), 3);
        due("which gets wider", x.paragraph(12, 0), 2);
        due("second", x.line(10, 0, 2), 9);
        due("first", x.line(11, 0, 2), 10);
    }

    /** With the reference wider there are 4 lines, not stiff any more, and the mark is a page earlier. */
    private static void promise17FourRounds() {
        start("17 four rounds");
        smallPage();
        x.style(1, 10, 1);
        x.style(2, 11, 1);
        x.style(3, 8, 1);
        for (int p = 0; p < 7; p++) {
            x.insert(p, 1);
        }
        paragraphOfLines(1, 8);
        paragraphOfLines(2, 2);
        x.add(8, 18, 0);
        x.add(8, -1, 0);
        paragraphOfLines(3, 8);
        due("one round without the mark", x.total(1), 1);
        due("stiff", x.line(8, 0, 2), 8);
        due("page 10", x.line(9, 0, 2), 9);
        x.mark(9, 0);
        due("never settled", x.total(1), 4);
        due("in the fourth it is 2 wide", x.paragraph(8, 0), 4);
        due("begins", x.line(8, 0, 2), 7);
        due("goes on", x.line(8, 2, 2), 8);
        due("page 9", x.line(9, 0, 2), 8);
    }

    private static void promise18OrderAndLimits() {
        start("18 order and limits");
        for (int p = 0; p < 24; p++) {
            due("insert " + p, x.insert(p, 0), p + 1);
        }
        due("full", x.insert(24, 0), -2);
        due("full in the middle", x.insert(0, 5), -2);
        due("p first", x.insert(25, 0), -1);
        due("style first", x.insert(0, 6), -1);
        due("no step", x.total(4), 0);
        x.remove(0);
        due("not full", x.insert(23, 0), 24);
        for (int w = 0; w < 16; w++) {
            due("add " + w, x.add(23, 30, 3), w + 1);
        }
        due("words full", x.add(23, 1, 0), -2);
        due("width first", x.add(23, 31, 0), -1);
        due("note first", x.add(23, 1, 4), -1);
        due("p first", x.add(24, 1, 0), -1);
        x.track(true, 1);
        x.drop(23);
        due("those gone count", x.add(23, 1, 0), -2);
        x.resolve(23, true);
        due("not full", x.add(23, 1, 0), 16);
        due("drop of a new one", x.drop(23), 15);
        for (int w = 0; w < 15; w++) {
            due("drop " + w, x.drop(23), 15);
        }
        due("all gone", x.drop(23), -1);
        due("no such paragraph", x.drop(24), -1);
        due("BAD", PageSetter.BAD, -1);
        due("FULL", PageSetter.FULL, -2);

        start("18 the most lines and columns");
        smallPage();
        x.style(0, 5, 4);
        for (int p = 0; p < 24; p++) {
            x.insert(p, 0);
            for (int w = 0; w < 16; w++) {
                x.add(p, 20, 3);
            }
        }
        due("a line a column", x.total(0), 384);
        due("the last one", x.column(383, 1), 15);
        due("behind it", x.column(384, 0), -1);
    }
}
