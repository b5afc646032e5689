import java.util.List;

/** The boundary cases of rounds: pages of one, two and three digits, no such mark, the fourth round. */
public final class RoundsTest extends Sheet {
    private RoundsTest() { }

    public static void main(String[] args) {
        oneRoundWithoutReferences();
        oneRoundWithoutMark();
        pageNineAndTen();
        pageNineAndTenOfTwoColumns();
        pageNinetyNineAndHundred();
        paragraphThatGoesOnBeganBefore();
        firstParagraphWithTheMark();
        markThatIsNoMore();
        referencesThatAreNoMore();
        referencesThatAreNotShown();
        ownMark();
        allReferencesToAMark();
        referencesJustHaveRoom();
        threeRounds();
        fourthRoundThatSettles();
        fourthRoundThatDoesNotSettle();
        fourthRoundOfTwoThatAlternate();
        Check.finish();
    }

    /** So many paragraphs of style 1, which begin a new page each, on the page of 20 and 10. */
    private static void pages(String words, int count) {
        start(words);
        smallPage();
        x.style(1, BREAK, 1);
        for (int p = 0; p < count; p++) {
            x.insert(p, 1);
        }
    }

    /** A paragraph at the end, of a word and a reference that fill a line if that is 1 wide, else two. */
    private static int referring(int style, int m) {
        int p = paragraphOfLines(style, 0);
        x.add(p, 18, 0);
        x.add(p, -1 - m, 0);
        return p;
    }

    private static int marked(int style, int m) {
        int p = paragraphOfLines(style, 1);
        x.mark(p, m);
        return p;
    }

    private static void oneRoundWithoutReferences() {
        pages("17: how many ROUNDS there were, without REFERENCES", 0);
        due("no paragraphs", x.total(1), 1);
        for (int p = 0; p < 12; p++) {
            x.insert(p, 1);
            x.mark(p, p % 8);
        }
        due("marks alone", x.total(1), 1);
    }

    private static void oneRoundWithoutMark() {
        pages("(1 if there is none)", 12);
        x.add(0, -1, 0);
        due("one round", x.total(1), 1);
        due("1 wide", x.line(0, 0, 5), 19);
        x.mark(11, 7);
        due("another mark", x.total(1), 1);
    }

    private static void pageNineAndTen() {
        pages("as wide as the page has digits", 11);
        x.add(0, -1, 0);
        x.mark(8, 0);
        due("page 9 has one", x.line(0, 0, 5), 19);
        due("it was so in the first round", x.total(1), 1);
        x.mark(8, -1);
        x.mark(9, 0);
        due("page 10 has two", x.line(0, 0, 5), 18);
        due("that makes a second round", x.total(1), 2);
        x.mark(9, -1);
        x.mark(10, 0);
        due("page 11 too", x.line(0, 0, 5), 18);
    }

    private static void pageNineAndTenOfTwoColumns() {
        pages("pages of two columns", 20);
        x.page(20, 10, 2);
        x.add(0, -1, 0);
        x.mark(17, 0);
        due("column 17 is on page 9", x.line(0, 0, 5), 8);
        due("one round", x.total(1), 1);
        x.mark(17, -1);
        x.mark(18, 0);
        due("column 18 is on page 10", x.line(0, 0, 5), 7);
        due("two rounds", x.total(1), 2);
        x.page(20, 10, 1);
        x.mark(9, 0);
        due("column 9 of single ones is on page 10", x.line(0, 0, 5), 18);
        x.page(20, 10, 2);
        due("but not here", x.line(0, 0, 5), 8);
    }

    /** Each line needs 7 of 10, so each is on a page of its own. */
    private static void pageNinetyNineAndHundred() {
        start("as wide as the page has digits, of three");
        smallPage();
        x.style(0, HEIGHT, 4);
        for (int p = 0; p < 7; p++) {
            x.insert(p, 0);
            for (int w = 0; w < (p == 6 ? 2 : 16); w++) {
                x.add(p, 20, 3);
            }
        }
        int last = lineWithNotes(0, 3);
        x.mark(last, 4);
        x.add(last, -5, 0);
        due("page 99", x.line(last, 0, 2), 98);
        due("1 and 2 and 1 between", x.line(last, 0, 5), 16);
        due("two rounds", x.total(1), 2);
        x.add(6, 20, 3);
        due("page 100", x.line(last, 0, 2), 99);
        due("1 and 3 and 1 between", x.line(last, 0, 5), 15);
        due("two rounds, from 1 to 3 wide", x.total(1), 2);
    }

    private static void paragraphThatGoesOnBeganBefore() {
        pages("the page, on which the first paragraph with their MARK began", 9);
        int p = paragraphOfLines(0, 10);
        x.mark(p, 2);
        due("it begins on page 9", x.line(p, 0, 2), 8);
        due("and goes on", x.line(p, 9, 2), 9);
        x.add(0, -3, 0);
        due("1 wide", x.line(0, 0, 5), 19);
        x.restyle(p, 1);
        due("it begins on page 10", x.line(p, 0, 2), 9);
        due("2 wide", x.line(0, 0, 5), 18);
    }

    private static void firstParagraphWithTheMark() {
        pages("the first paragraph with their MARK", 12);
        x.add(5, -3, 0);
        x.mark(10, 2);
        x.mark(11, 2);
        due("two on pages 11 and 12", x.line(5, 0, 5), 18);
        x.mark(8, 2);
        due("one on page 9", x.line(5, 0, 5), 19);
        x.mark(8, 3);
        x.mark(0, 2);
        due("the very first one", x.line(5, 0, 5), 19);
        x.mark(0, -1);
        due("those on pages 11 and 12 again", x.line(5, 0, 5), 18);
        x.remove(0);
        x.remove(1);
        due("on pages 9 and 10", x.line(3, 0, 5), 19);
    }

    private static void markThatIsNoMore() {
        pages("(1 if there is none), any more", 11);
        x.add(0, -8, 0);
        x.mark(10, 7);
        due("2 wide", x.line(0, 0, 5), 18);
        x.mark(10, -1);
        due("1 wide", x.line(0, 0, 5), 19);
        due("one round", x.total(1), 1);
        x.step(true);
        due("2 wide again", x.line(0, 0, 5), 18);
        x.remove(10);
        due("its paragraph went", x.line(0, 0, 5), 19);
    }

    private static void referencesThatAreNoMore() {
        pages("all REFERENCES, of which none is left", 10);
        x.mark(9, 1);
        x.add(0, 2, 0);
        x.add(0, -2, 0);
        due("two rounds", x.total(1), 2);
        x.drop(0);
        due("it was dropped", x.total(1), 1);
        int p = referring(0, 1);
        due("two rounds", x.total(1), 2);
        x.remove(p);
        due("its paragraph went", x.total(1), 1);
        x.step(true);
        due("two rounds again", x.total(1), 2);
    }

    private static void referencesThatAreNotShown() {
        pages("all REFERENCES, one of which is not SHOWN", 10);
        x.mark(9, 1);
        x.add(0, -2, 0);
        x.track(true, 1);
        x.drop(0);
        due("it is GONE", x.word(0, 0), -100);
        due("but would be wider in the second round", x.total(1), 2);
        x.resolve(0, true);
        due("it is no more", x.total(1), 1);
    }

    private static void ownMark() {
        pages("a REFERENCE in the paragraph with the MARK", 10);
        x.mark(9, 1);
        x.add(9, 18, 0);
        x.add(9, -2, 0);
        due("2 wide", x.paragraph(9, 0), 2);
        due("two rounds", x.total(1), 2);
    }

    private static void allReferencesToAMark() {
        pages("all REFERENCES", 10);
        x.mark(9, 1);
        x.mark(0, 0);
        addWords(3, -2, -2, -1, -2);
        due("each of its mark", placesOf(3), List.of(0, 3, 6, 8));
        due("what is left", x.line(3, 0, 5), 10);
    }

    private static void referencesJustHaveRoom() {
        pages("as many words as have room, with a REFERENCE", 10);
        x.add(0, 17, 0);
        x.add(0, -1, 0);
        x.mark(9, 0);
        due("17 and 2 and 1 between", x.paragraph(0, 0), 1);
        due("nothing is left", x.line(0, 0, 5), 0);
        due("it is behind the word", x.word(0, 1), 18);
        x.insert(1, 1);
        x.add(1, 18, 0);
        x.add(1, -1, 0);
        due("18 and 2 and 1 between", x.paragraph(1, 0), 2);
        due("it is on the next line", x.word(1, 1), 100);
    }

    /** Page 9 is full: what is pushed from it in a round is on page 10 for the next one. */
    private static void threeRounds() {
        pages("that after which the next one would have all REFERENCES as wide, the third", 8);
        referring(1, 0);
        paragraphOfLines(0, 8);
        int second = marked(0, 1);
        int first = marked(1, 0);
        int last = referring(0, 1);
        due("rounds", x.total(1), 3);
        due("pushed in the second", x.line(second, 0, 2), 9);
        due("by the one marked first", x.line(first, 0, 2), 10);
        due("two lines in the third", x.paragraph(last, 0), 2);
    }

    private static void fourthRoundThatSettles() {
        pages("the last round is the fourth, after which no one would be wider", 8);
        int a = referring(1, 0);
        int b = referring(0, 1);
        paragraphOfLines(0, 6);
        int third = marked(0, 2);
        int second = marked(0, 1);
        int first = marked(1, 0);
        int last = referring(0, 2);
        due("rounds", x.total(1), 4);
        due("first reference", x.paragraph(a, 0), 2);
        due("second reference", x.paragraph(b, 0), 2);
        due("third reference", x.paragraph(last, 0), 2);
        due("first mark", x.line(first, 0, 2), 10);
        due("second mark", x.line(second, 0, 2), 9);
        due("third mark", x.line(third, 0, 2), 9);
    }

    private static void fourthRoundThatDoesNotSettle() {
        pages("the last round is the fourth, though a fifth one would have one wider", 8);
        int a = referring(1, 0);
        referring(0, 1);
        int c = referring(0, 2);
        paragraphOfLines(0, 4);
        int fourth = marked(0, 3);
        int third = marked(0, 2);
        marked(0, 1);
        marked(1, 0);
        int last = referring(0, 3);
        due("rounds", x.total(1), 4);
        due("first reference", x.paragraph(a, 0), 2);
        due("third reference", x.paragraph(c, 0), 2);
        due("the third mark is on page 10 since the third", x.line(third, 0, 2), 9);
        due("the fourth one since the fourth", x.line(fourth, 0, 2), 9);
        due("so its reference is as it was", x.paragraph(last, 0), 1);
        due("1 wide", x.line(last, 0, 5), 0);
    }

    /**
     * With the reference 1 wide the paragraph has 3 lines, is stiff and pushes the mark to page 10;
     * 2 wide it has 4, is not, and leaves the mark on page 9.
     */
    private static void fourthRoundOfTwoThatAlternate() {
        pages("the last round is the fourth, of two that alternate", 7);
        x.style(2, PAIRS, 1);
        x.style(3, WHOLE, 1);
        paragraphOfLines(1, 8);
        int p = paragraphOfLines(2, 2);
        x.add(p, 18, 0);
        x.add(p, -1, 0);
        int after = paragraphOfLines(3, 8);
        x.mark(after, 0);
        due("rounds", x.total(1), 4);
        due("2 wide in the second and fourth", x.paragraph(p, 0), 4);
        due("columns", columnsOf(p), List.of(7, 7, 8, 8));
        due("where the mark is in the fourth", x.line(after, 0, 2), 8);
        due("last word", x.word(p, 3), 300);
        due("how many columns", x.total(0), 9);
    }
}
