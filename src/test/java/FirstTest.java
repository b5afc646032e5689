/** What is so at first, and a document without paragraphs; worked out by hand from the terms. */
public final class FirstTest extends Sheet {
    private FirstTest() { }

    public static void main(String[] args) {
        constants();
        noParagraphs();
        noParagraphsWithEverythingSet();
        noParagraphsAnyMore();
        pageAtFirst();
        stylesAtFirst();
        alignAndLevelAtFirst();
        stayingTogetherAtFirst();
        trackingAndViewAtFirst();
        twoObjectsHaveNothingInCommon();
        Check.finish();
    }

    private static void constants() {
        start("BAD = -1, FULL = -2, HIDDEN = -100");
        due("BAD", PageSetter.BAD, -1);
        due("FULL", PageSetter.FULL, -2);
        due("HIDDEN", PageSetter.HIDDEN, -100);
    }

    private static void nothingThere() {
        due("columns", x.total(0), 0);
        due("rounds", x.total(1), 1);
        due("paragraphs", x.total(2), 0);
        due("column 0", x.column(0, 0), -1);
        due("paragraph 0", x.paragraph(0, 0), -2);
        due("line 0", x.line(0, 0, 0), -1);
        due("word 0", x.word(0, 0), -1);
    }

    private static void noParagraphs() {
        start("1: no paragraphs");
        nothingThere();
        due("steps back", x.total(3), 0);
        due("steps again", x.total(4), 0);
        due("step back", x.step(true), false);
        due("step again", x.step(false), false);
    }

    private static void noParagraphsWithEverythingSet() {
        start("1: no paragraphs, though there are a page, styles and tracking");
        due("page", x.page(80, 60, 2), true);
        due("style", x.style(0, BREAK, 1), true);
        due("style", x.style(0, LEVEL, 3), true);
        due("track", x.track(true, 2), true);
        nothingThere();
        due("steps back", x.total(3), 3);
    }

    private static void noParagraphsAnyMore() {
        start("3: how many are left, 0");
        x.insert(0, 0);
        x.add(0, 30, 3);
        x.mark(0, 0);
        due("a column", x.total(0), 1);
        due("the last one goes", x.remove(0), 0);
        nothingThere();
        due("one can be again", x.insert(0, 0), 1);
        due("without words", x.paragraph(0, 4), 0);
        due("without mark", x.paragraph(0, 3), -1);
    }

    private static void pageAtFirst() {
        start("THE PAGE at first is 40 wide, 20 high and has 1 column");
        x.insert(0, 0);
        due("40 wide", x.line(0, 0, 5), 40);
        addWords(0, 20, 19);
        due("40 have room", x.paragraph(0, 0), 1);
        x.drop(0);
        addWords(0, 20);
        due("41 have not", x.paragraph(0, 0), 2);
        for (int p = 1; p < 20; p++) {
            x.insert(p, 0);
        }
        due("20 lines in the first column", x.column(0, 2), 20);
        due("one in the next", x.column(1, 2), 1);
        x.add(19, 3, 0);
        due("which begins at 0 of the next page", x.word(19, 0), 0);
    }

    private static void stylesAtFirst() {
        for (int s = 0; s <= 5; s++) {
            start("A STYLE at first: HEIGHT is 1, all others are 0: style " + s);
            x.insert(0, s);
            addWords(0, 30, 30);
            due("LEFT and FIRST", x.line(0, 0, 4), 0);
            due("LEFT", x.line(0, 1, 4), 0);
            due("RIGHT", x.line(0, 1, 5), 10);
            x.insert(1, s);
            due("HEIGHT, BEFORE and AFTER", x.line(1, 0, 3), 2);
            due("HEIGHT", x.column(0, 4), 3);
            due("BREAK", x.line(1, 0, 2), 0);
        }
    }

    private static void alignAndLevelAtFirst() {
        for (int s = 0; s <= 5; s++) {
            start("A STYLE at first: ALIGN and LEVEL are 0: style " + s);
            smallPage();
            x.insert(0, s);
            addWords(0, 4, 5, 6, 20);
            due("no label", x.paragraph(0, 1), 0);
            due("not aligned", x.word(0, 0), 0);
            due("nor its gaps", x.word(0, 1), 5);
            due("nor the next", x.word(0, 2), 11);
        }
    }

    /** Seven of ten lines are filled: the first line of four goes there, and three of them do. */
    private static void stayingTogetherAtFirst() {
        for (int s = 0; s <= 5; s++) {
            start("A STYLE at first: WHOLE, NEXT, BREAK and PAIRS are 0: style " + s);
            smallPage();
            int other = s == 0 ? 1 : 0;
            paragraphOfLines(other, 7);
            paragraphOfLines(s, 4);
            paragraphOfLines(other, 1);
            due("it begins here, and its third line stays", x.line(1, 2, 2), 0);
            due("its last one has no place", x.line(1, 3, 2), 1);
            due("the next one follows", x.line(2, 0, 3), 1);
        }
    }

    private static void trackingAndViewAtFirst() {
        start("TRACKING is off at first, VIEW is 0 at first");
        x.insert(0, 0);
        x.add(0, 3, 0);
        due("not new", x.paragraph(0, 5), 0);
        due("no more", x.drop(0), 0);
        due("not gone", x.paragraph(0, 5), 0);
        x.add(0, 3, 0);
        due("shown", x.word(0, 0), 0);
        x.track(true, 1);
        x.drop(0);
        due("view 1 hides one gone", x.word(0, 0), -100);
        start("VIEW 0 SHOWS all words");
        x.insert(0, 0);
        x.add(0, 3, 0);
        x.track(true, 0);
        x.drop(0);
        x.add(0, 3, 0);
        due("one gone", x.word(0, 0), 0);
        due("one new", x.word(0, 1), 4);
    }

    private static void twoObjectsHaveNothingInCommon() {
        start("1: a new object, beside another one");
        Counted other = x;
        other.insert(0, 0);
        other.style(0, LEFT, 9);
        other.page(80, 60, 2);
        other.track(true, 2);
        start("1: a new object, beside another one");
        nothingThere();
        due("no steps", x.total(3), 0);
        x.insert(0, 0);
        due("its page and style", x.line(0, 0, 5), 40);
        due("the other has its own", other.line(0, 0, 5), 30);
    }
}
