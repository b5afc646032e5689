import java.util.List;

/** The boundary cases of words that are added, dropped, tracked and resolved, and of what is full. */
public final class TrackedTest extends Sheet {
    private TrackedTest() { }

    public static void main(String[] args) {
        paragraphsUpTo24();
        badBeforeFullOfInsert();
        wordsUpTo16();
        badBeforeFullOfAdd();
        wordsGoneCountAsWords();
        wordsAreFullInOneParagraphAlone();
        insertedParagraphHasNothing();
        movedParagraphsKeepAll();
        dropOfNoWord();
        dropOfPlainWord();
        dropOfNewWord();
        dropBeforeThoseGone();
        dropOfAllWords();
        dropOfNewWordBeforeThoseGone();
        dropAnswersWithThoseGone();
        viewsShow();
        viewsOfAPlainWord();
        refusedTrack();
        resolveOfNone();
        resolveOfAllNew();
        resolveOfAllGone();
        resolveOfBoth();
        resolveOfOneParagraphAlone();
        resolveOfFullParagraph();
        resolveWhateverTheView();
        resolveAfterOneThatIsNoMore();
        lastWordOfTheLastParagraph();
        newOrGoneAreCounted();
        Check.finish();
    }

    private static void one(String words) {
        start(words);
        x.insert(0, 0);
    }

    private static void paragraphsUpTo24() {
        start("a DOCUMENT has up to 24 PARAGRAPHS, 0 the first");
        for (int p = 0; p < 24; p++) {
            due("how many there are then", x.insert(p, p % 6), p + 1);
        }
        due("at the end", x.insert(24, 0), -2);
        due("at the beginning", x.insert(0, 0), -2);
        due("before the last", x.insert(23, 0), -2);
        due("still 24", x.total(2), 24);
        due("the last one", x.paragraph(23, 2), 5);
        due("none behind it", x.paragraph(24, 2), -2);
        due("one goes", x.remove(10), 23);
        due("one comes", x.insert(23, 1), 24);
        due("full again", x.insert(24, 1), -2);
    }

    private static void badBeforeFullOfInsert() {
        start("18: insert: BAD is tested before FULL");
        for (int p = 0; p < 24; p++) {
            x.insert(p, 0);
        }
        due("p above", x.insert(25, 0), -1);
        due("p below", x.insert(-1, 0), -1);
        due("style above", x.insert(0, 6), -1);
        due("style below", x.insert(24, -1), -1);
        due("both", x.insert(25, 6), -1);
        due("neither", x.insert(24, 5), -2);
    }

    private static void wordsUpTo16() {
        one("up to 16 WORDS");
        for (int w = 0; w < 16; w++) {
            due("how many it has", x.add(0, 1, 0), w + 1);
        }
        due("no more", x.add(0, 1, 0), -2);
        due("nor a reference", x.add(0, -1, 0), -2);
        x.track(true, 0);
        due("nor a new one", x.add(0, 1, 0), -2);
        due("still 16", x.paragraph(0, 4), 16);
        due("the last one", x.word(0, 15), 30);
        due("none behind it", x.word(0, 16), -1);
        x.track(false, 0);
        due("one goes", x.drop(0), 15);
        due("one comes", x.add(0, 2, 0), 16);
        due("full again", x.add(0, 2, 0), -2);
    }

    private static void badBeforeFullOfAdd() {
        one("18: add: BAD is tested before FULL");
        for (int w = 0; w < 16; w++) {
            x.add(0, 1, 0);
        }
        due("width above", x.add(0, 31, 0), -1);
        due("width 0", x.add(0, 0, 0), -1);
        due("width below", x.add(0, -9, 0), -1);
        due("note above", x.add(0, 1, 4), -1);
        due("note below", x.add(0, 1, -1), -1);
        due("p above", x.add(1, 1, 0), -1);
        due("p below", x.add(-1, 1, 0), -1);
        due("none", x.add(0, 30, 3), -2);
        due("none, of a reference", x.add(0, -8, 3), -2);
    }

    private static void wordsGoneCountAsWords() {
        one("up to 16 WORDS, those GONE among them");
        for (int w = 0; w < 16; w++) {
            x.add(0, 1, 0);
        }
        x.track(true, 1);
        due("one is GONE", x.drop(0), 16);
        due("full", x.add(0, 1, 0), -2);
        due("accepted", x.resolve(0, true), 1);
        due("not full", x.add(0, 1, 0), 16);
        due("full", x.add(0, 1, 0), -2);
        due("the new one goes", x.drop(0), 15);
        due("not full", x.add(0, 1, 0), 16);
    }

    private static void wordsAreFullInOneParagraphAlone() {
        start("FULL is one paragraph alone");
        x.insert(0, 0);
        x.insert(1, 0);
        x.insert(2, 0);
        for (int w = 0; w < 16; w++) {
            x.add(1, 20, 1);
        }
        due("full", x.add(1, 1, 0), -2);
        due("the one before", x.add(0, 7, 0), 1);
        due("the one behind", x.add(2, 8, 0), 1);
        due("it has still 16", x.paragraph(1, 4), 16);
        due("its first", x.word(1, 0), 0);
        due("its last", x.line(1, 15, 5), 20);
    }

    private static void insertedParagraphHasNothing() {
        start("2: a new paragraph without words and mark");
        x.insert(0, 0);
        x.mark(0, 0);
        x.track(true, 0);
        x.add(0, 30, 3);
        x.remove(0);
        x.insert(0, 0);
        due("words", x.paragraph(0, 4), 0);
        due("mark", x.paragraph(0, 3), -1);
        due("none NEW or GONE", x.paragraph(0, 5), 0);
        due("notes", x.column(0, 3), 0);
        x.mark(0, 0);
        x.add(0, 30, 3);
        x.insert(0, 4);
        due("before it, words", x.paragraph(0, 4), 0);
        due("mark", x.paragraph(0, 3), -1);
        due("none NEW or GONE", x.paragraph(0, 5), 0);
        due("the other has its own", x.paragraph(1, 4), 1);
        due("mark", x.paragraph(1, 3), 0);
        due("a first word", x.add(0, 2, 0), 1);
    }

    private static void movedParagraphsKeepAll() {
        start("2 and 3: paragraphs at the edges move with all they have");
        x.insert(0, 3);
        x.mark(0, 5);
        x.track(true, 0);
        for (int w = 0; w < 16; w++) {
            x.add(0, 1 + w, w % 4);
        }
        List<Integer> places = placesOf(0);
        for (int p = 0; p < 23; p++) {
            x.insert(0, 0);
        }
        due("the last one's style", x.paragraph(23, 2), 3);
        due("mark", x.paragraph(23, 3), 5);
        due("new words", x.paragraph(23, 5), 16);
        due("words", placesOf(23), places);
        for (int p = 0; p < 23; p++) {
            x.remove(0);
        }
        due("the first one's style", x.paragraph(0, 2), 3);
        due("mark", x.paragraph(0, 3), 5);
        due("words", placesOf(0), places);
        due("notes", x.column(0, 3) + x.column(1, 3), 24);
    }

    private static void dropOfNoWord() {
        one("18: drop: BAD if it has no word that is not GONE");
        due("no word", x.drop(0), -1);
        x.track(true, 0);
        due("with tracking", x.drop(0), -1);
        x.add(0, 3, 0);
        due("one NEW", x.drop(0), 0);
        due("no more", x.drop(0), -1);
        x.track(false, 0);
        x.add(0, 3, 0);
        x.track(true, 0);
        due("one PLAIN", x.drop(0), 1);
        due("it is GONE", x.drop(0), -1);
        x.track(false, 0);
        due("without tracking too", x.drop(0), -1);
        due("it is still there", x.paragraph(0, 4), 1);
        due("18: no such paragraph", x.drop(1), -1);
    }

    private static void dropOfPlainWord() {
        one("7: is GONE, if it is PLAIN and TRACKING is on");
        addWords(0, 3, 4);
        x.track(true, 0);
        due("with tracking", x.drop(0), 2);
        due("is GONE", x.paragraph(0, 5), 1);
        x.track(true, 1);
        due("the last one", placesOf(0), List.of(0, -100));
        x.step(true);
        x.track(false, 1);
        due("without tracking there is no such word any more", x.drop(0), 1);
        due("none is GONE", x.paragraph(0, 5), 0);
    }

    private static void dropOfNewWord() {
        one("7: else there is no such word any more, one NEW");
        x.track(true, 0);
        addWords(0, 3, 4);
        due("with tracking", x.drop(0), 1);
        due("the other one is NEW", x.paragraph(0, 5), 1);
        x.track(false, 0);
        due("without tracking", x.drop(0), 0);
        due("none", x.paragraph(0, 5), 0);
        due("no word", x.word(0, 0), -1);
    }

    private static void dropBeforeThoseGone() {
        one("7: the last word of paragraph p that is not GONE");
        addWords(0, 2, 3, 4, 5);
        x.track(true, 1);
        x.drop(0);
        due("the last one", placesOf(0), List.of(0, 3, 7, -100));
        x.drop(0);
        due("the one before", placesOf(0), List.of(0, 3, -100, -100));
        x.track(false, 0);
        due("without tracking the one before that goes", x.drop(0), 3);
        due("those behind it move", placesOf(0), List.of(0, 3, 8));
        due("and are GONE", x.paragraph(0, 5), 2);
        due("the first one", x.drop(0), 2);
        due("those GONE are left", placesOf(0), List.of(0, 5));
    }

    private static void dropOfAllWords() {
        one("7: is GONE, up to the first word");
        for (int w = 0; w < 16; w++) {
            x.add(0, 1, 0);
        }
        x.track(true, 1);
        for (int w = 15; w >= 0; w--) {
            due("16 with those GONE", x.drop(0), 16);
            due("how many are GONE", x.paragraph(0, 5), 16 - w);
            due("the last one is hidden", x.word(0, w), -100);
        }
        due("none is left", x.drop(0), -1);
        due("one line without words", x.line(0, 0, 0), 16);
    }

    private static void dropOfNewWordBeforeThoseGone() {
        one("7: there is no such word any more, behind one GONE");
        addWords(0, 2, 3);
        x.track(true, 0);
        x.drop(0);
        addWords(0, 4, 5);
        due("one NEW is the last", x.drop(0), 3);
        due("another one", x.drop(0), 2);
        due("then the PLAIN one before the one GONE", x.drop(0), 2);
        due("both GONE", x.paragraph(0, 5), 2);
        due("no more", x.drop(0), -1);
    }

    private static void dropAnswersWithThoseGone() {
        one("7: how many are left, with those GONE");
        addWords(0, 1, 1, 1);
        x.track(true, 0);
        due("3 with 1 GONE", x.drop(0), 3);
        x.track(false, 0);
        due("2 with 1 GONE", x.drop(0), 2);
        due("1, which is GONE", x.drop(0), 1);
        due("no more", x.drop(0), -1);
    }

    private static void viewsShow() {
        one("VIEW 0 SHOWS all words, 1 all but those GONE, 2 all but those NEW");
        addWords(0, 2, 3);
        x.track(true, 0);
        x.drop(0);
        addWords(0, 4);
        due("0", placesOf(0), List.of(0, 3, 7));
        x.track(true, 1);
        due("1", placesOf(0), List.of(0, -100, 3));
        x.track(true, 2);
        due("2", placesOf(0), List.of(0, 3, -100));
        x.track(true, 0);
        due("0 again", placesOf(0), List.of(0, 3, 7));
    }

    private static void viewsOfAPlainWord() {
        for (int view = 0; view <= 2; view++) {
            one("a PLAIN word is SHOWN in VIEW " + view);
            x.track(false, view);
            addWords(0, 2, 3);
            due("shown", placesOf(0), List.of(0, 3));
        }
    }

    private static void refusedTrack() {
        one("10: false, and nothing changes, if the VIEW is not 0..2");
        addWords(0, 2, 3);
        x.track(true, 1);
        due("refused", x.track(false, 3), false);
        due("TRACKING is still on", x.drop(0), 2);
        due("VIEW is still 1", x.word(0, 1), -100);
        due("refused", x.track(false, -1), false);
        due("TRACKING is still on", x.add(0, 4, 0), 3);
        due("it is NEW", x.paragraph(0, 5), 2);
        due("VIEW is still 1", x.word(0, 2), 3);
        x.track(false, 2);
        due("refused", x.track(true, 3), false);
        due("TRACKING is still off", x.add(0, 5, 0), 4);
        due("it is PLAIN", x.paragraph(0, 5), 2);
        due("VIEW is still 2", placesOf(0), List.of(0, 3, -100, 7));
    }

    private static void resolveOfNone() {
        one("11: how many there were of both, 0");
        due("no words", x.resolve(0, true), 0);
        due("no words", x.resolve(0, false), 0);
        addWords(0, 2, 3);
        due("PLAIN ones", x.resolve(0, true), 0);
        due("PLAIN ones", x.resolve(0, false), 0);
        due("they stay", placesOf(0), List.of(0, 3));
        due("no steps", x.total(3), 3);
        due("BAD if there is none", x.resolve(1, true), -1);
    }

    private static void resolveOfAllNew() {
        for (int accept = 0; accept <= 1; accept++) {
            one("11: words that are NEW, all; accept " + accept);
            x.track(true, 0);
            addWords(0, 2, 3, 4);
            due("three", x.resolve(0, accept == 1), 3);
            due("words", x.paragraph(0, 4), accept == 1 ? 3 : 0);
            due("none is NEW", x.paragraph(0, 5), 0);
            due("none another time", x.resolve(0, accept == 1), 0);
            x.track(true, 2);
            due("PLAIN or no more", x.word(0, 0), accept == 1 ? 0 : -1);
            due("lines", x.paragraph(0, 0), 1);
        }
    }

    private static void resolveOfAllGone() {
        for (int accept = 0; accept <= 1; accept++) {
            one("11: words that are GONE, all; accept " + accept);
            addWords(0, 2, 3, 4);
            x.track(true, 1);
            x.drop(0);
            x.drop(0);
            x.drop(0);
            due("three", x.resolve(0, accept == 1), 3);
            due("words", x.paragraph(0, 4), accept == 1 ? 0 : 3);
            due("none is GONE", x.paragraph(0, 5), 0);
            due("PLAIN or no more", x.word(0, 2), accept == 1 ? -1 : 7);
            due("drop", x.drop(0), accept == 1 ? -1 : 3);
        }
    }

    private static void resolveOfBoth() {
        for (int accept = 0; accept <= 1; accept++) {
            one("11: how many there were of both; accept " + accept);
            addWords(0, 2, 3, 4);
            x.track(true, 0);
            x.drop(0);
            x.drop(0);
            addWords(0, 5, 6, 7);
            due("two GONE and three NEW", x.resolve(0, accept == 1), 5);
            List<Integer> places = accept == 1 ? List.of(0, 3, 9, 16) : List.of(0, 3, 7);
            due("those left, in their order", placesOf(0), places);
            due("all PLAIN", x.paragraph(0, 5), 0);
        }
    }

    private static void resolveOfOneParagraphAlone() {
        start("11: words of paragraph p");
        x.track(true, 0);
        for (int p = 0; p < 3; p++) {
            x.insert(p, 0);
            addWords(p, 2, 3);
        }
        due("the middle one", x.resolve(1, false), 2);
        due("it has none", x.paragraph(1, 4), 0);
        due("the first one has", x.paragraph(0, 5), 2);
        due("the last one has", x.paragraph(2, 5), 2);
        due("the last one", x.resolve(2, true), 2);
        due("the first one has still", x.paragraph(0, 5), 2);
    }

    private static void resolveOfFullParagraph() {
        for (int accept = 0; accept <= 1; accept++) {
            one("11: words of a paragraph that is full; accept " + accept);
            for (int w = 0; w < 16; w++) {
                x.add(0, 1, 0);
            }
            x.track(true, 0);
            for (int w = 0; w < 16; w++) {
                x.drop(0);
            }
            due("all", x.resolve(0, accept == 1), 16);
            due("words", x.paragraph(0, 4), accept == 1 ? 0 : 16);
            due("add", x.add(0, 1, 0), accept == 1 ? 1 : -2);
        }
    }

    private static void resolveWhateverTheView() {
        for (int view = 0; view <= 2; view++) {
            one("11: words that are NEW or GONE, be they SHOWN or not, in VIEW " + view);
            addWords(0, 2, 3);
            x.track(true, view);
            x.drop(0);
            x.add(0, 4, 0);
            x.track(false, view);
            due("both", x.resolve(0, true), 2);
            due("those left", placesOf(0), List.of(0, 3));
        }
    }

    private static void resolveAfterOneThatIsNoMore() {
        one("11: those NEW are no more, where one was dropped");
        x.track(true, 0);
        addWords(0, 2, 3);
        due("one is left", x.drop(0), 1);
        due("one was NEW", x.resolve(0, false), 1);
        due("no word", x.paragraph(0, 4), 0);
        due("a first one", x.add(0, 4, 0), 1);
        one("11: those GONE are no more, where others were so before");
        addWords(0, 2, 3, 4);
        x.track(true, 0);
        x.drop(0);
        due("one was GONE", x.resolve(0, true), 1);
        x.drop(0);
        due("another one", x.resolve(0, true), 1);
        due("one word is left", placesOf(0), List.of(0));
    }

    private static void lastWordOfTheLastParagraph() {
        start("7 and 11: words of the last of 24 paragraphs, which is full");
        for (int p = 0; p < 24; p++) {
            x.insert(p, 0);
        }
        for (int w = 0; w < 16; w++) {
            x.add(23, 1, 3);
        }
        due("the last one", x.drop(23), 15);
        due("another one", x.add(23, 2, 3), 16);
        x.track(true, 0);
        due("is GONE", x.drop(23), 16);
        x.track(false, 0);
        due("the one before", x.drop(23), 15);
        due("the one GONE moves", x.word(23, 14), 28);
        due("it is no more", x.resolve(23, true), 1);
        due("words", x.paragraph(23, 4), 14);
        due("the paragraph", x.remove(23), 23);
        due("it is not there", x.paragraph(23, 4), -2);
    }

    private static void newOrGoneAreCounted() {
        one("13: how many of them NEW or GONE, in each VIEW");
        addWords(0, 2, 3);
        x.track(true, 0);
        x.drop(0);
        x.add(0, 4, 0);
        for (int view = 0; view <= 2; view++) {
            x.track(true, view);
            due("words", x.paragraph(0, 4), 3);
            due("NEW or GONE", x.paragraph(0, 5), 2);
        }
    }
}
