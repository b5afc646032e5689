import java.util.List;
import java.util.function.IntPredicate;

/**
 * The least and the greatest of each number that a call takes: every number from the one to the
 * other is taken, and those outside, by one or by far, get the answer that the call has for them.
 */
public final class NumbersTest extends Sheet {
    private static final int BAD = -1, NOT_THERE = -2;

    private static final int[] LEAST = {0, 0, -5, 0, 0, 1, 0, 0, 0, 0, 0, 0};
    private static final int[] GREATEST = {10, 10, 10, 9, 9, 4, 3, 3, 1, 1, 1, 1};

    private NumbersTest() { }

    public static void main(String[] args) {
        insertTakesPlacesUpToHowManyThereAre();
        insertTakesStyles0To5();
        removeTakesParagraphsThatAre();
        restyleTakesStyles0To5();
        markTakes0To7AndNone();
        addTakesWidths1To30();
        addTakesReferencesToMarks0To7();
        addTakesNotes0To3();
        dropTakesParagraphsThatAre();
        styleTakesStyles0To5();
        styleTakesWhats0To11();
        styleTakesWhatTheTermsTell();
        styleChangesNothingElse();
        pageTakesWidths20To80();
        pageTakesHeights10To60();
        pageTakes1Or2Columns();
        trackTakesViews0To2();
        resolveTakesParagraphsThatAre();
        paragraphTellsOfThoseThatAre();
        paragraphTellsWhats0To5();
        lineTellsOfThoseThatAre();
        lineTellsWhats0To5();
        wordTellsOfThoseThatAre();
        columnTellsOfThoseNotEmpty();
        columnTellsWhats0To4();
        totalTellsWhats0To4();
        Check.finish();
    }

    private static void inside(int least, int greatest, IntPredicate isTaken) {
        for (int n = least; n <= greatest; n++) {
            due(n + " is taken", isTaken.test(n), true);
        }
    }

    /** Far ones too: one that is cut to fewer bits, or from which something is taken, can look right. */
    private static void outside(int least, int greatest, IntPredicate isRefused) {
        int[] far = {least - 1, greatest + 1, least - 2, greatest + 2, MIN, MIN + 1, MAX, MAX - 1,
            least + 128, least + 256, greatest - 256, least + 65536, greatest - 65536, MIN + greatest + 1,
            least + (1 << 24), least + (1 << 30)};
        for (int n : far) {
            if (n < least || n > greatest) {
                due(n + " is outside", isRefused.test(n), true);
            }
        }
    }

    private static void twoParagraphs(String words) {
        start(words);
        x.insert(0, 0);
        x.insert(1, 0);
        x.add(0, 5, 0);
        x.add(1, 5, 0);
    }

    private static void insertTakesPlacesUpToHowManyThereAre() {
        start("2: number p (0 .. how many there are), BAD if p is outside");
        outside(0, 0, p -> x.insert(p, 0) == BAD);
        due("the only place", x.insert(0, 0), 1);
        outside(0, 1, p -> x.insert(p, 0) == BAD);
        due("the last place", x.insert(1, 0), 2);
        outside(0, 2, p -> x.insert(p, 0) == BAD);
        due("the first place", x.insert(0, 0), 3);
        x.remove(0);
        due("one fewer", x.insert(3, 0), BAD);
        due("still the last place", x.insert(2, 0), 3);
    }

    private static void insertTakesStyles0To5() {
        start("2: BAD if the style is outside");
        outside(0, 5, s -> x.insert(0, s) == BAD);
        inside(0, 5, s -> x.insert(s, s) == s + 1 && x.paragraph(s, 2) == s);
        outside(0, 5, s -> x.insert(0, s) == BAD);
        due("both outside", x.insert(-1, -1), BAD);
    }

    private static void removeTakesParagraphsThatAre() {
        start("3: BAD if there is none");
        outside(1, 0, p -> x.remove(p) == BAD);
        due("0 of none", x.remove(0), BAD);
        x.insert(0, 0);
        x.insert(1, 0);
        outside(0, 1, p -> x.remove(p) == BAD);
        due("the last one", x.remove(1), 1);
        due("it is no more", x.remove(1), BAD);
        due("the first one", x.remove(0), 0);
        due("none is left", x.remove(0), BAD);
    }

    private static void restyleTakesStyles0To5() {
        twoParagraphs("4: false if one is outside");
        inside(0, 5, s -> x.restyle(1, s) && x.paragraph(1, 2) == s);
        outside(0, 5, s -> !x.restyle(1, s));
        due("it has still the last one", x.paragraph(1, 2), 5);
        inside(0, 1, p -> x.restyle(p, 3));
        outside(0, 1, p -> !x.restyle(p, 0));
        due("both outside", x.restyle(2, 6), false);
    }

    private static void markTakes0To7AndNone() {
        twoParagraphs("5: a MARK, or none (-1); false if one is outside");
        inside(-1, 7, m -> x.mark(1, m) && x.paragraph(1, 3) == m);
        outside(-1, 7, m -> !x.mark(1, m));
        due("it has still the last one", x.paragraph(1, 3), 7);
        inside(0, 1, p -> x.mark(p, 3));
        outside(0, 1, p -> !x.mark(p, 0));
        outside(0, 1, p -> !x.mark(p, -1));
        due("both outside", x.mark(-1, -2), false);
    }

    private static void addTakesWidths1To30() {
        start("6: BAD if width is outside 1..30");
        x.page(80, 60, 1);
        x.insert(0, 0);
        x.insert(1, 0);
        inside(1, 15, width -> x.add(0, width, 0) == width);
        inside(16, 30, width -> x.add(1, width, 0) == width - 15);
        due("0 is outside", x.add(0, 0, 0), BAD);
        outside(-8, 30, width -> x.add(0, width, 0) == BAD);
        x.insert(0, 0);
        addWords(0, 1, 30, 2);
        due("the second one is behind one of 1", x.word(0, 1), 2);
        due("the third one is behind one of 30", x.word(0, 2), 33);
    }

    private static void addTakesReferencesToMarks0To7() {
        start("6: a width of -1 - m makes it a REFERENCE to MARK m");
        x.insert(0, 0);
        inside(-8, -1, width -> x.add(0, width, 0) == width + 9);
        due("-9 is outside", x.add(0, -9, 0), BAD);
        due("-10 is outside", x.add(0, -10, 0), BAD);
        for (int m = 0; m < 8; m++) {
            start("6: a REFERENCE to MARK " + m);
            smallPage();
            x.style(1, BREAK, 1);
            for (int p = 0; p < 10; p++) {
                x.insert(p, 1);
            }
            x.add(0, -1 - m, 0);
            x.mark(9, m == 0 ? 1 : m - 1);
            due("another one's page does not count", x.line(0, 0, 5), 19);
            x.mark(9, m == 7 ? 6 : m + 1);
            due("nor that of the one above", x.line(0, 0, 5), 19);
            x.mark(9, m);
            due("page 10 makes it 2 wide", x.line(0, 0, 5), 18);
        }
    }

    private static void addTakesNotes0To3() {
        twoParagraphs("6: BAD if note is outside 0..3");
        outside(0, 3, note -> x.add(0, 1, note) == BAD);
        inside(0, 3, note -> x.add(0, 1, note) == note + 2);
        due("they are 0, 1, 2 and 3 high", x.column(0, 3), 6);
        outside(0, 3, note -> x.add(0, -1, note) == BAD);
        due("a reference has one too", x.add(0, -1, 3), 6);
        due("of 3", x.column(0, 3), 9);
        outside(0, 1, p -> x.add(p, 1, 0) == BAD);
        due("all outside", x.add(-1, 0, -1), BAD);
    }

    private static void dropTakesParagraphsThatAre() {
        start("7: BAD if there is none");
        due("0 of none", x.drop(0), BAD);
        twoParagraphs("7: BAD if there is none");
        outside(0, 1, p -> x.drop(p) == BAD);
        inside(0, 1, p -> x.drop(p) == 0);
    }

    private static void styleTakesStyles0To5() {
        start("8: false if the style is outside 0..5");
        outside(0, 5, s -> !x.style(s, LEFT, 1));
        inside(0, 5, s -> x.style(s, LEFT, s + 1));
        for (int s = 0; s <= 5; s++) {
            x.insert(s, s);
        }
        inside(0, 5, s -> x.line(s, 0, 4) == s + 1);
    }

    private static void styleTakesWhats0To11() {
        start("8: false if what is outside 0..11");
        outside(0, 11, what -> !x.style(0, what, 1));
        outside(0, 11, what -> !x.style(5, what, 0));
        inside(0, 11, what -> x.style(0, what, 1));
        due("all outside", x.style(6, 12, 11), false);
    }

    private static void styleTakesWhatTheTermsTell() {
        for (int i = 0; i < 12; i++) {
            int what = i;
            start("8: what " + what + " is " + LEAST[what] + ".." + GREATEST[what]);
            inside(LEAST[what], GREATEST[what], v -> x.style(2, what, v));
            outside(LEAST[what], GREATEST[what], v -> !x.style(2, what, v));
            due("steps of those taken alone", x.total(3), GREATEST[what] - LEAST[what] + 1);
        }
    }

    /** Paragraphs of all styles but one, and then all that one has becomes the greatest. */
    private static void styleChangesNothingElse() {
        for (int s = 0; s <= 5; s++) {
            start("8: what of a style becomes v, and no other style: " + s);
            for (int p = 0; p < 5; p++) {
                x.insert(p, p < s ? p : p + 1);
                addWords(p, 3, 30, 25);
            }
            List<Integer> before = everything(x);
            for (int what = 0; what < 12; what++) {
                due("set", x.style(s, what, GREATEST[what]), true);
            }
            List<Integer> after = everything(x);
            after.set(3, before.get(3));
            due("all answers are as before", after, before);
        }
    }

    private static void pageTakesWidths20To80() {
        twoParagraphs("9: the page is 20..80 wide");
        inside(20, 80, width -> x.page(width, 20, 1) && x.line(0, 0, 5) == width - 5);
        outside(20, 80, width -> !x.page(width, 20, 1));
        outside(20, 80, width -> !x.page(width, 20, 2));
        due("it has still the last one", x.line(0, 0, 5), 75);
    }

    /** Sixty-four lines: as many of them are in the first column as it is high. */
    private static void pageTakesHeights10To60() {
        start("9: the page is 10..60 high");
        for (int p = 0; p < 4; p++) {
            x.insert(p, 0);
            for (int w = 0; w < 16; w++) {
                x.add(p, 30, 0);
            }
        }
        inside(10, 60, height -> x.page(40, height, 1) && x.column(0, 2) == height);
        outside(10, 60, height -> !x.page(40, height, 1));
        due("it has still the last one", x.column(0, 2), 60);
    }

    private static void pageTakes1Or2Columns() {
        twoParagraphs("9: the page has 1 or 2 columns");
        outside(1, 2, columns -> !x.page(40, 20, columns));
        due("1 at first", x.line(0, 0, 5), 35);
        due("2", x.page(40, 20, 2), true);
        due("19 wide", x.line(0, 0, 5), 14);
        outside(1, 2, columns -> !x.page(40, 20, columns));
        due("still 2", x.line(0, 0, 5), 14);
        due("1", x.page(40, 20, 1), true);
        due("40 wide", x.line(0, 0, 5), 35);
        due("all outside", x.page(19, 9, 0), false);
    }

    private static void trackTakesViews0To2() {
        twoParagraphs("10: false if the VIEW is not 0..2");
        inside(0, 2, view -> x.track(true, view));
        inside(0, 2, view -> x.track(false, view));
        outside(0, 2, view -> !x.track(true, view));
        outside(0, 2, view -> !x.track(false, view));
    }

    private static void resolveTakesParagraphsThatAre() {
        start("11: BAD if there is none");
        due("0 of none", x.resolve(0, true), BAD);
        due("0 of none", x.resolve(0, false), BAD);
        twoParagraphs("11: BAD if there is none");
        x.track(true, 0);
        x.drop(0);
        x.drop(1);
        outside(0, 1, p -> x.resolve(p, true) == BAD);
        outside(0, 1, p -> x.resolve(p, false) == BAD);
        inside(0, 1, p -> x.resolve(p, true) == 1);
    }

    private static void paragraphTellsOfThoseThatAre() {
        start("13: BAD - 1 if it is not there");
        inside(0, 5, what -> x.paragraph(0, what) == NOT_THERE);
        twoParagraphs("13: BAD - 1 if it is not there");
        inside(0, 1, p -> x.paragraph(p, 0) == 1);
        for (int i = 0; i <= 5; i++) {
            int what = i;
            outside(0, 1, p -> x.paragraph(p, what) == NOT_THERE);
        }
        x.remove(1);
        due("it went", x.paragraph(1, 0), NOT_THERE);
        x.step(true);
        due("it is there again", x.paragraph(1, 0), 1);
    }

    private static void paragraphTellsWhats0To5() {
        twoParagraphs("13: BAD - 1 if what is not there");
        inside(0, 5, what -> x.paragraph(1, what) != NOT_THERE);
        outside(0, 5, what -> x.paragraph(1, what) == NOT_THERE);
        due("none as a mark is BAD itself", x.paragraph(1, 3), BAD);
        due("nor is there one", x.paragraph(2, 6), NOT_THERE);
    }

    private static void lineTellsOfThoseThatAre() {
        start("14: BAD if it is not there");
        inside(0, 5, what -> x.line(0, 0, what) == BAD);
        twoParagraphs("14: BAD if it is not there");
        addWords(1, 30, 30, 30);
        for (int i = 0; i <= 5; i++) {
            int what = i;
            inside(0, 2, k -> x.line(1, k, what) >= 0);
            outside(0, 2, k -> x.line(1, k, what) == BAD);
            due("one paragraph's lines are not another's", x.line(0, 1, what), BAD);
        }
        outside(0, 1, p -> x.line(p, 0, 0) == BAD);
        x.insert(0, 0);
        for (int w = 0; w < 16; w++) {
            x.add(0, 30, 0);
        }
        due("the last line of the most", x.line(0, 15, 0), 15);
        due("none behind it", x.line(0, 16, 0), BAD);
    }

    private static void lineTellsWhats0To5() {
        twoParagraphs("14: BAD if what is not there");
        inside(0, 5, what -> x.line(1, 0, what) != BAD);
        outside(0, 5, what -> x.line(1, 0, what) == BAD);
        due("nothing is", x.line(2, 1, 6), BAD);
    }

    private static void wordTellsOfThoseThatAre() {
        start("15: BAD if there is none");
        due("0 of none", x.word(0, 0), BAD);
        twoParagraphs("15: BAD if there is none");
        addWords(0, 5, 5);
        inside(0, 2, w -> x.word(0, w) == 6 * w);
        outside(0, 2, w -> x.word(0, w) == BAD);
        outside(0, 1, p -> x.word(p, 0) == BAD);
        due("one paragraph's words are not another's", x.word(1, 1), BAD);
        x.drop(1);
        due("it went", x.word(1, 0), BAD);
        for (int w = 3; w < 16; w++) {
            x.add(0, 1, 0);
        }
        due("the last of the most", x.word(0, 15) != BAD, true);
        due("none behind it", x.word(0, 16), BAD);
    }

    private static void columnTellsOfThoseNotEmpty() {
        start("16: BAD if it is empty");
        inside(0, 4, what -> x.column(0, what) == BAD);
        twoParagraphs("16: BAD if it is empty");
        x.style(0, BREAK, 1);
        for (int i = 0; i <= 4; i++) {
            int what = i;
            inside(0, 1, c -> x.column(c, what) >= 0);
            outside(0, 1, c -> x.column(c, what) == BAD);
        }
        x.style(0, BREAK, 0);
        due("it is empty now", x.column(1, 2), BAD);
        x.page(40, 20, 2);
        due("as is the second one of a page", x.column(1, 2), BAD);
    }

    private static void columnTellsWhats0To4() {
        twoParagraphs("16: BAD if what is not there");
        inside(0, 4, what -> x.column(0, what) != BAD);
        outside(0, 4, what -> x.column(0, what) == BAD);
        due("nothing is", x.column(1, 5), BAD);
    }

    private static void totalTellsWhats0To4() {
        start("17: BAD for others");
        inside(0, 4, what -> x.total(what) >= 0);
        outside(0, 4, what -> x.total(what) == BAD);
        twoParagraphs("17: BAD for others");
        inside(0, 4, what -> x.total(what) >= 0);
        outside(0, 4, what -> x.total(what) == BAD);
    }
}
