import java.util.List;

/**
 * The boundary cases of columns: what just fits and what does not by 1, what is left free, what
 * stays together, and lines that need more than a column has. The page is 20 wide and 10 high.
 */
public final class ColumnsTest extends Sheet {
    private ColumnsTest() { }

    public static void main(String[] args) {
        linesThatJustFit();
        linesAsHighAsTheirStyle();
        notesThatJustFit();
        notesOfALineAreAdded();
        notesOfHiddenWordsAreNone();
        notesAreOfTheLinesColumn();
        tallLineAtTheBeginning();
        tallLineFurther();
        tallLineAlone();
        tallestLine();
        nothingLeftFreeAtTheBeginning();
        greaterOfAfterAndBefore();
        leftFreeThatJustHasPlace();
        leftFreeBehindAParagraphThatWentOn();
        columnFullToTheEnd();
        breakInAColumnNotEmpty();
        stiffWithPairsBelow4Lines();
        notStiffWithPairsFrom4Lines();
        stiffWithWholeHoweverManyLines();
        wholeThatJustHasPlace();
        wholeHigherThanAColumn();
        wholeAndPairs();
        headOfPairs();
        headOfOneLine();
        headHigherThanAColumn();
        nextThatJustHasPlace();
        nextThatJustHasPlaceInAnEmptyColumn();
        nextWithWhatIsLeftFree();
        nextOfTheLastParagraph();
        nextUpToTheLastParagraph();
        nextGoesWithTheHeadOfTheNext();
        nextGoesWithNotes();
        nextBeforeBreak();
        lastButOneWithTheLast();
        lastButOneAtTheBeginning();
        lastButOneByNotes();
        firstAndLastLineOfAColumn();
        mostColumns();
        columnsOverPages();
        Check.finish();
    }

    private static void small(String words) {
        start(words);
        smallPage();
    }

    private static void linesThatJustFit() {
        small("a line FITS if what it NEEDS is not more than is free");
        paragraphOfLines(0, 10);
        due("ten of 1 fit", linesOfColumns(), List.of(10));
        x.add(0, 20, 0);
        due("the eleventh does not", linesOfColumns(), List.of(10, 1));
        due("it is at the top", x.line(0, 10, 3), 0);
        due("the tenth is at the foot", x.line(0, 9, 3), 9);
        due("filled", x.column(0, 4), 10);
    }

    private static void linesAsHighAsTheirStyle() {
        int[] inAColumn = {10, 5, 3, 2};
        for (int height = 1; height <= 4; height++) {
            small("a line NEEDS its style's HEIGHT, of " + height);
            x.style(0, HEIGHT, height);
            paragraphOfLines(0, 11);
            due("in the first column", x.column(0, 2), inAColumn[height - 1]);
            due("filled", x.column(0, 4), inAColumn[height - 1] * height);
            due("the second line", x.line(0, 1, 3), height);
        }
        small("as high as the page is");
        x.page(20, 12, 1);
        x.style(0, HEIGHT, 4);
        paragraphOfLines(0, 4);
        due("three of 4", linesOfColumns(), List.of(3, 1));
        x.page(20, 11, 1);
        due("one less", linesOfColumns(), List.of(2, 2));
    }

    private static void notesThatJustFit() {
        small("and the heights of its words' notes");
        x.insert(0, 0);
        x.add(0, 20, 3);
        x.add(0, 20, 3);
        x.add(0, 20, 1);
        due("4, 4 and 2 fit", linesOfColumns(), List.of(3));
        due("notes", x.column(0, 3), 7);
        due("lines", x.column(0, 4), 3);
        x.drop(0);
        x.add(0, 20, 2);
        due("4, 4 and 3 do not", linesOfColumns(), List.of(2, 1));
        due("notes of the first", x.column(0, 3), 6);
        due("of the second", x.column(1, 3), 2);
        x.drop(0);
        x.add(0, 20, 0);
        x.add(0, 20, 0);
        due("one without a note fits, and another", linesOfColumns(), List.of(4));
        x.add(0, 20, 0);
        due("no more", linesOfColumns(), List.of(4, 1));
    }

    private static void notesOfALineAreAdded() {
        small("the heights of its words' notes, of all words of a line");
        lineWithNotes(0, 1, 2, 3, 3);
        due("one line", x.paragraph(0, 0), 1);
        due("notes", x.column(0, 3), 9);
        due("10 fit", x.line(0, 0, 2), 0);
        lineWithNotes(0);
        due("nothing is free", x.line(1, 0, 2), 1);
    }

    private static void notesOfHiddenWordsAreNone() {
        small("its words' notes, which are SHOWN words");
        lineWithNotes(0, 3, 3, 3);
        lineWithNotes(0);
        due("10 with all", linesOfColumns(), List.of(1, 1));
        x.track(true, 1);
        x.drop(0);
        due("one is hidden", x.column(0, 3), 6);
        due("the other fits", linesOfColumns(), List.of(2));
        x.track(true, 0);
        due("shown again", x.column(0, 3), 9);
    }

    private static void notesAreOfTheLinesColumn() {
        small("16: the height of its notes");
        x.insert(0, 0);
        for (int i = 0; i < 9; i++) {
            x.add(0, 20, 0);
        }
        x.add(0, 20, 1);
        due("the tenth does not fit with its note", linesOfColumns(), List.of(9, 1));
        due("none", x.column(0, 3), 0);
        due("1", x.column(1, 3), 1);
        due("how high it is filled by lines alone", x.column(1, 4), 1);
    }

    private static void tallLineAtTheBeginning() {
        small("a line that NEEDS more than a column has, the first one");
        lineWithNotes(0, 3, 3, 3, 1);
        due("it needs 11 and is in the first column", x.line(0, 0, 2), 0);
        due("at its top", x.line(0, 0, 3), 0);
        due("notes", x.column(0, 3), 10);
        due("filled", x.column(0, 4), 1);
        lineWithNotes(0);
        due("nothing fits behind it", x.line(1, 0, 2), 1);
        due("no empty columns", linesOfColumns(), List.of(1, 1));
    }

    /** Ten words of 1 and notes of 1 fill a line of 20: it needs 11. */
    private static void tallLineFurther() {
        small("a line that NEEDS more than a column has, a further one");
        paragraphOfLines(0, 1);
        for (int w = 0; w < 10; w++) {
            x.add(0, 1, 1);
        }
        x.add(0, 20, 0);
        due("lines", x.paragraph(0, 0), 3);
        due("a column for each", columnsOf(0), List.of(0, 1, 2));
        due("its notes", x.column(1, 3), 10);
        due("its height", x.column(1, 4), 1);
        due("the next one has none", x.column(2, 3), 0);
        x.drop(0);
        x.drop(0);
        x.add(0, 1, 0);
        due("10 fit in a column, but not here", columnsOf(0), List.of(0, 1));
    }

    private static void tallLineAlone() {
        small("a line that NEEDS more than a column has, between two");
        lineWithNotes(0);
        lineWithNotes(0, 3, 3, 3, 3);
        lineWithNotes(0);
        lineWithNotes(0);
        due("alone", linesOfColumns(), List.of(1, 1, 2));
        due("its paragraph", x.column(1, 0), 1);
        x.style(0, AFTER, 9);
        due("nothing is left free at the beginning", x.line(1, 0, 3), 0);
        due("nor behind it", x.line(2, 0, 3), 0);
        x.style(0, AFTER, 0);
        x.style(0, PAIRS, 1);
        due("with pairs", linesOfColumns(), List.of(1, 1, 2));
        x.style(0, WHOLE, 1);
        due("with whole", linesOfColumns(), List.of(1, 1, 2));
        x.style(0, NEXT, 1);
        due("with next the last two still go together", linesOfColumns(), List.of(1, 1, 2));
    }

    private static void tallestLine() {
        start("a line that NEEDS more than a column has, the most there can be");
        x.page(80, 10, 1);
        x.style(0, HEIGHT, 4);
        x.insert(0, 0);
        for (int w = 0; w < 16; w++) {
            x.add(0, 4, 3);
        }
        due("one line of 79", x.line(0, 0, 5), 1);
        due("notes", x.column(0, 3), 48);
        due("height", x.column(0, 4), 4);
        due("columns", x.total(0), 1);
        lineWithNotes(0);
        due("the next one", x.line(1, 0, 2), 1);
        x.page(80, 56, 1);
        due("52 and 4 are 56", x.line(1, 0, 2), 0);
        x.page(80, 55, 1);
        due("and not 55", x.line(1, 0, 2), 1);
    }

    private static void nothingLeftFreeAtTheBeginning() {
        small("at the beginning of a column nothing");
        x.style(0, BEFORE, 9);
        x.style(0, AFTER, 9);
        paragraphOfLines(0, 1);
        due("of the first one", x.line(0, 0, 3), 0);
        due("nor at its end", x.column(0, 4), 1);
        paragraphOfLines(0, 1);
        due("of another one", x.line(1, 0, 3), 0);
        due("which it is", x.line(1, 0, 2), 1);
        due("it has place in an empty column without what is left free", linesOfColumns(), List.of(1, 1));
    }

    private static void greaterOfAfterAndBefore() {
        int[] after = {0, 3, 2, 2, 9, 0};
        int[] before = {0, 2, 3, 2, 0, 9};
        int[] free = {0, 3, 3, 2, 9, 9};
        for (int i = 0; i < after.length; i++) {
            start("the greater of AFTER and BEFORE, of " + after[i] + " and " + before[i]);
            x.style(1, AFTER, after[i]);
            x.style(2, BEFORE, before[i]);
            x.style(1, BEFORE, 7);
            x.style(2, AFTER, 7);
            x.insert(0, 1);
            x.insert(1, 2);
            due("left free", x.line(1, 0, 3), 1 + free[i]);
            due("filled with it", x.column(0, 4), 2 + free[i]);
        }
    }

    private static void leftFreeThatJustHasPlace() {
        small("does not have place here (after what is left free)");
        x.style(1, BEFORE, 9);
        paragraphOfLines(0, 1);
        paragraphOfLines(1, 1);
        due("1, 9 and 1 are too much", x.line(1, 0, 2), 1);
        x.style(1, BEFORE, 8);
        due("1, 8 and 1 are not", x.line(1, 0, 2), 0);
        due("it is at the foot", x.line(1, 0, 3), 9);
        x.style(1, BEFORE, 0);
        x.style(0, AFTER, 9);
        due("as with AFTER, 9", x.line(1, 0, 2), 1);
        x.style(0, AFTER, 8);
        due("and 8", x.line(1, 0, 2), 0);
        paragraphOfLines(0, 1);
        due("nothing is free", x.line(2, 0, 2), 1);
    }

    private static void leftFreeBehindAParagraphThatWentOn() {
        small("between two paragraphs in a column, the first of which began before");
        x.style(0, AFTER, 2);
        paragraphOfLines(0, 11);
        paragraphOfLines(0, 1);
        due("its column", x.line(1, 0, 2), 1);
        due("behind one line and 2", x.line(1, 0, 3), 3);
        due("the column's first paragraph", x.column(1, 0), 0);
        due("and line", x.column(1, 1), 10);
        due("how high it is filled", x.column(1, 4), 4);
    }

    private static void columnFullToTheEnd() {
        small("how many columns are not empty, where one is full");
        paragraphOfLines(0, 10);
        due("one", x.total(0), 1);
        due("no other one", x.column(1, 0), -1);
        x.style(1, BREAK, 1);
        paragraphOfLines(1, 1);
        due("two with the next, not three", x.total(0), 2);
        due("where that is", x.line(1, 0, 2), 1);
        x.restyle(1, 0);
        due("without BREAK too", x.line(1, 0, 2), 1);
    }

    private static void breakInAColumnNotEmpty() {
        small("begins in a new column, if this one is not empty, and its style has BREAK");
        x.style(0, BREAK, 1);
        paragraphOfLines(0, 1);
        due("the first column was empty", x.line(0, 0, 2), 0);
        paragraphOfLines(0, 1);
        due("now it is not", x.line(1, 0, 2), 1);
        paragraphOfLines(1, 1);
        due("one without BREAK", x.line(2, 0, 2), 1);
        x.style(0, WHOLE, 1);
        x.style(0, NEXT, 1);
        due("one column, not two", columnsOf(1), List.of(1));
        x.page(20, 10, 2);
        due("a column, not a page", x.word(1, 0), 11);
        x.style(0, BREAK, 0);
        due("none has it", x.total(0), 1);
    }

    /** What is free in the first column, and in which columns the lines of the paragraph are then. */
    private static void behindFiller(int style, int free, int lines, List<Integer> columns) {
        smallPage();
        paragraphOfLines(0, 10 - free);
        int p = paragraphOfLines(style, lines);
        due(lines + " lines where " + free + " are free", columnsOf(p), columns);
        x.remove(p);
        x.remove(0);
    }

    private static void stiffWithPairsBelow4Lines() {
        start("18: STIFF with PAIRS if it has less than 4 lines");
        x.style(1, PAIRS, 1);
        behindFiller(1, 1, 1, List.of(0));
        behindFiller(1, 2, 2, List.of(0, 0));
        behindFiller(1, 1, 2, List.of(1, 1));
        behindFiller(1, 3, 3, List.of(0, 0, 0));
        behindFiller(1, 2, 3, List.of(1, 1, 1));
        behindFiller(1, 1, 3, List.of(1, 1, 1));
    }

    private static void notStiffWithPairsFrom4Lines() {
        start("18: not STIFF with PAIRS if it has 4 lines");
        x.style(1, PAIRS, 1);
        behindFiller(1, 4, 4, List.of(0, 0, 0, 0));
        behindFiller(1, 3, 4, List.of(0, 0, 1, 1));
        behindFiller(1, 2, 4, List.of(0, 0, 1, 1));
        behindFiller(1, 1, 4, List.of(1, 1, 1, 1));
        behindFiller(1, 4, 5, List.of(0, 0, 0, 1, 1));
        behindFiller(1, 3, 5, List.of(0, 0, 0, 1, 1));
        behindFiller(1, 2, 5, List.of(0, 0, 1, 1, 1));
    }

    private static void stiffWithWholeHoweverManyLines() {
        for (int lines = 1; lines <= 10; lines++) {
            start("18: with WHOLE STIFF however many lines it has, " + lines);
            smallPage();
            x.style(1, WHOLE, 1);
            paragraphOfLines(0, 11 - lines);
            int p = paragraphOfLines(1, lines);
            due("the first one", x.line(p, 0, 2), 1);
            due("the last one", x.line(p, lines - 1, 2), 1);
        }
    }

    private static void wholeThatJustHasPlace() {
        start("its HEAD are all its lines if it is STIFF");
        x.style(1, WHOLE, 1);
        behindFiller(1, 4, 4, List.of(0, 0, 0, 0));
        behindFiller(1, 3, 4, List.of(1, 1, 1, 1));
        behindFiller(1, 9, 9, List.of(0, 0, 0, 0, 0, 0, 0, 0, 0));
        behindFiller(1, 8, 9, List.of(1, 1, 1, 1, 1, 1, 1, 1, 1));
    }

    private static void wholeHigherThanAColumn() {
        small("or its HEAD alone does not have place here, nor in an empty column");
        x.style(1, WHOLE, 1);
        paragraphOfLines(0, 1);
        paragraphOfLines(1, 10);
        due("10 go to the next column", linesOfColumns(), List.of(1, 10));
        x.add(1, 20, 0);
        due("11 too", linesOfColumns(), List.of(1, 10, 1));
        for (int w = 11; w < 16; w++) {
            x.add(1, 20, 0);
        }
        due("16 too", linesOfColumns(), List.of(1, 10, 6));
        x.remove(0);
        due("the first one begins where it is", linesOfColumns(), List.of(10, 6));
    }

    private static void wholeAndPairs() {
        small("if the paragraph has PAIRS and is not STIFF");
        x.style(1, PAIRS, 1);
        x.style(2, PAIRS, 1);
        x.style(2, WHOLE, 1);
        paragraphOfLines(1, 11);
        due("pairs", linesOfColumns(), List.of(9, 2));
        x.restyle(0, 2);
        due("stiff by WHOLE", linesOfColumns(), List.of(10, 1));
        x.restyle(0, 0);
        due("neither", linesOfColumns(), List.of(10, 1));
        x.restyle(0, 1);
        x.add(0, 20, 0);
        due("two are left anyway", linesOfColumns(), List.of(10, 2));
    }

    private static void headOfPairs() {
        start("its HEAD are the first two if it has PAIRS");
        x.style(1, PAIRS, 1);
        behindFiller(1, 2, 6, List.of(0, 0, 1, 1, 1, 1));
        behindFiller(1, 1, 6, List.of(1, 1, 1, 1, 1, 1));
    }

    private static void headOfOneLine() {
        start("else the first one");
        behindFiller(1, 1, 6, List.of(0, 1, 1, 1, 1, 1));
        behindFiller(1, 1, 1, List.of(0));
        behindFiller(1, 2, 2, List.of(0, 0));
        behindFiller(1, 1, 2, List.of(0, 1));
    }

    private static void headHigherThanAColumn() {
        small("its HEAD of two lines needs more than a column has");
        x.style(1, PAIRS, 1);
        paragraphOfLines(0, 3);
        x.insert(1, 1);
        for (int line = 0; line < 4; line++) {
            x.add(1, 18, 3);
            x.add(1, 1, 2);
        }
        due("each needs 6: a new column, and then one for each", columnsOf(1), List.of(1, 2, 3, 4));
        x.restyle(1, 0);
        due("one line would have place here", columnsOf(1), List.of(0, 1, 2, 3));
    }

    private static void nextThatJustHasPlace() {
        small("all its lines, and what GOES WITH the next one");
        x.style(1, NEXT, 1);
        paragraphOfLines(0, 6);
        paragraphOfLines(1, 3);
        paragraphOfLines(0, 5);
        due("3 and 1 have place", columnsOf(1), List.of(0, 0, 0));
        due("the next one goes on", columnsOf(2), List.of(0, 1, 1, 1, 1));
        x.add(0, 20, 0);
        due("by one they have not", columnsOf(1), List.of(1, 1, 1));
        due("with the next one", columnsOf(2), List.of(1, 1, 1, 1, 1));
        x.restyle(1, 0);
        due("without NEXT it has place", columnsOf(1), List.of(0, 0, 0));
    }

    private static void nextThatJustHasPlaceInAnEmptyColumn() {
        small("but would in an empty column");
        x.style(1, NEXT, 1);
        paragraphOfLines(0, 2);
        paragraphOfLines(1, 9);
        paragraphOfLines(0, 1);
        due("9 and 1 would", linesOfColumns(), List.of(2, 10));
        x.add(1, 20, 0);
        due("10 and 1 would not, and the first line has place", linesOfColumns(), List.of(10, 3));
        x.style(1, BEFORE, 7);
        due("just", x.line(1, 0, 3), 9);
        x.style(1, BEFORE, 8);
        due("or not", linesOfColumns(), List.of(2, 10, 1));
    }

    private static void nextWithWhatIsLeftFree() {
        small("(after what is left free, with what is left free within)");
        x.style(1, NEXT, 1);
        paragraphOfLines(0, 3);
        paragraphOfLines(1, 2);
        paragraphOfLines(2, 1);
        x.style(1, BEFORE, 2);
        x.style(2, BEFORE, 2);
        due("3, 2, 2, 2 and 1", linesOfColumns(), List.of(6));
        x.style(2, BEFORE, 3);
        due("one more within", linesOfColumns(), List.of(3, 3));
        due("it is left free there", x.line(2, 0, 3), 5);
        x.style(2, BEFORE, 2);
        x.style(1, BEFORE, 3);
        due("one more before", linesOfColumns(), List.of(3, 3));
        due("it is not left free there", x.line(1, 0, 3), 0);
        x.style(1, BEFORE, 2);
        x.style(2, AFTER, 9);
        due("none behind", linesOfColumns(), List.of(6));
        x.style(2, BEFORE, 7);
        due("2, 7 and 1 would have place in an empty column", linesOfColumns(), List.of(3, 3));
        x.style(2, BEFORE, 8);
        due("2, 8 and 1 would not", linesOfColumns(), List.of(5, 1));
    }

    private static void nextOfTheLastParagraph() {
        small("if its style has NEXT, and it is not the last one, else its HEAD");
        x.style(1, NEXT, 1);
        paragraphOfLines(0, 9);
        paragraphOfLines(1, 3);
        due("the last one", columnsOf(1), List.of(0, 1, 1));
        x.insert(2, 0);
        due("not the last one", columnsOf(1), List.of(1, 1, 1));
        x.remove(2);
        due("the last one again", columnsOf(1), List.of(0, 1, 1));
        small("a document of one paragraph with NEXT");
        x.style(1, NEXT, 1);
        paragraphOfLines(1, 12);
        due("as any other", linesOfColumns(), List.of(10, 2));
    }

    private static void nextUpToTheLastParagraph() {
        small("what GOES WITH the next one, and so on up to the last");
        x.style(1, NEXT, 1);
        paragraphOfLines(0, 6);
        for (int p = 1; p <= 4; p++) {
            paragraphOfLines(1, 1);
        }
        due("four have place", linesOfColumns(), List.of(10));
        paragraphOfLines(1, 1);
        due("five have not", linesOfColumns(), List.of(6, 5));
        for (int p = 6; p <= 10; p++) {
            paragraphOfLines(1, 1);
        }
        due("ten are a column", linesOfColumns(), List.of(6, 10));
        paragraphOfLines(1, 1);
        due("eleven are more: the first goes alone, the others are a column", linesOfColumns(), List.of(7, 10));
    }

    private static void nextGoesWithTheHeadOfTheNext() {
        small("what GOES WITH the next one, its HEAD");
        x.style(1, NEXT, 1);
        x.style(2, PAIRS, 1);
        x.style(3, WHOLE, 1);
        paragraphOfLines(0, 8);
        paragraphOfLines(1, 1);
        paragraphOfLines(0, 4);
        due("one line", linesOfColumns(), List.of(10, 3));
        x.restyle(2, 2);
        due("two lines", linesOfColumns(), List.of(8, 5));
        x.drop(0);
        due("which have place now", linesOfColumns(), List.of(10, 2));
        x.restyle(2, 3);
        due("all lines", linesOfColumns(), List.of(7, 5));
        x.drop(0);
        x.drop(0);
        due("which have place now", linesOfColumns(), List.of(10));
    }

    private static void nextGoesWithNotes() {
        small("does not have place here, with the notes of what GOES WITH it");
        x.style(1, NEXT, 1);
        paragraphOfLines(0, 4);
        lineWithNotes(1, 1);
        lineWithNotes(0, 3);
        due("4, 2 and 4 have place", linesOfColumns(), List.of(6));
        x.drop(1);
        x.add(1, 1, 2);
        due("4, 3 and 4 have not", linesOfColumns(), List.of(4, 2));
        due("notes of the second column", x.column(1, 3), 5);
        x.step(true);
        x.step(true);
        due("as before", linesOfColumns(), List.of(6));
        x.insert(3, 0);
        x.add(2, 20, 3);
        due("notes behind its HEAD do not count", x.line(1, 0, 2), 0);
        due("that line goes on", x.line(2, 1, 2), 1);
    }

    private static void nextBeforeBreak() {
        small("what GOES WITH the next one, whatever the next one begins in");
        x.style(1, NEXT, 1);
        x.style(2, BREAK, 1);
        paragraphOfLines(0, 7);
        paragraphOfLines(1, 2);
        paragraphOfLines(2, 1);
        due("7, 2 and 1 have place", linesOfColumns(), List.of(9, 1));
        x.add(1, 20, 0);
        due("7, 3 and 1 have not, though the next one is not to be here", linesOfColumns(), List.of(7, 3, 1));
    }

    private static void lastButOneWithTheLast() {
        small("the last but one also if it FITS but the last one would not behind it");
        x.style(1, PAIRS, 1);
        paragraphOfLines(1, 10);
        due("both fit", linesOfColumns(), List.of(10));
        x.add(0, 20, 0);
        due("the last one would not", linesOfColumns(), List.of(9, 2));
        x.add(0, 20, 0);
        due("the last but one does not fit", linesOfColumns(), List.of(10, 2));
        x.add(0, 20, 0);
        due("neither the one before it", linesOfColumns(), List.of(10, 3));
        x.restyle(0, 0);
        x.drop(0);
        x.drop(0);
        due("without PAIRS", linesOfColumns(), List.of(10, 1));
    }

    private static void lastButOneAtTheBeginning() {
        small("if it is not at the beginning of a column itself");
        x.style(1, PAIRS, 1);
        x.style(1, HEIGHT, 4);
        paragraphOfLines(1, 4);
        due("two and two", columnsOf(0), List.of(0, 0, 1, 1));
        x.step(true);
        x.add(0, 18, 3);
        x.add(0, 1, 3);
        due("the last one needs 10, and is not fit behind", columnsOf(0), List.of(0, 0, 1, 2));
        x.add(0, 20, 0);
        due("one more", columnsOf(0), List.of(0, 0, 1, 2, 3));
        due("no empty columns", linesOfColumns(), List.of(2, 1, 1, 1));
    }

    private static void lastButOneByNotes() {
        small("the last one would not behind it, with both lines' notes");
        x.style(1, PAIRS, 1);
        paragraphOfLines(1, 5);
        x.add(0, 20, 1);
        x.add(0, 20, 2);
        due("5, 2 and 3 fit", linesOfColumns(), List.of(7));
        x.drop(0);
        x.add(0, 20, 3);
        due("5, 2 and 4 do not", linesOfColumns(), List.of(5, 2));
        due("notes are with their lines", x.column(1, 3), 4);
        due("and not before", x.column(0, 3), 0);
        x.drop(0);
        x.drop(0);
        x.add(0, 20, 2);
        x.add(0, 20, 2);
        due("nor 5, 3 and 3", linesOfColumns(), List.of(5, 2));
    }

    private static void firstAndLastLineOfAColumn() {
        small("16: the paragraph of its first line, which line of that it is");
        paragraphOfLines(0, 10);
        paragraphOfLines(0, 12);
        paragraphOfLines(0, 1);
        due("column 0", x.column(0, 0), 0);
        due("line", x.column(0, 1), 0);
        due("column 1 begins with a first line", x.column(1, 0), 1);
        due("line", x.column(1, 1), 0);
        due("column 2 with a further one", x.column(2, 0), 1);
        due("line", x.column(2, 1), 10);
        due("its lines are of two paragraphs", x.column(2, 2), 3);
        due("the last one", x.line(2, 0, 3), 2);
        due("no column 3", x.column(3, 0), -1);
    }

    private static void mostColumns() {
        small("columns are numbered 0, 1, .. as many as there can be");
        x.style(0, HEIGHT, 4);
        for (int p = 0; p < 24; p++) {
            x.insert(p, 0);
            for (int w = 0; w < 16; w++) {
                x.add(p, 20, 3);
            }
        }
        due("a line a column", x.total(0), 384);
        due("the last one", x.column(383, 0), 23);
        due("its line", x.column(383, 1), 15);
        due("its notes", x.column(383, 3), 3);
        due("none behind it", x.column(384, 0), -1);
        due("the last line", x.line(23, 15, 2), 383);
        x.page(20, 10, 2);
        due("as many, with 2 on a page", x.total(0), 384);
        due("the last word is in a second column", x.word(23, 15), 1511);
    }

    private static void columnsOverPages() {
        start("columns are numbered over all pages, as high as the page");
        x.page(20, 10, 2);
        paragraphOfLines(0, 16);
        paragraphOfLines(0, 16);
        due("each is as high as the page", linesOfColumns(), List.of(10, 10, 10, 2));
        due("the fourth is the second one of page 2", x.word(1, 15), 1511);
        due("the third the first one of page 2", x.word(1, 13), 1300);
        due("the second the second one of page 1", x.word(1, 0), 11);
    }
}
