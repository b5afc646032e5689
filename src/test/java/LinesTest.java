import java.util.List;

/** The boundary cases of lines: room, words that are too wide or not shown, slack, align, labels. */
public final class LinesTest extends Sheet {
    private LinesTest() { }

    public static void main(String[] args) {
        wordsThatJustHaveRoom();
        oneBetweenTwoWords();
        roomIsOneAtLeast();
        roomOfOneTakesOneWord();
        firstLineBeginsElsewhere();
        firstLineBeginsBelowZero();
        rightTakesRoom();
        wordTooWide();
        wordTooWideIsNotAligned();
        manyWordsTooWide();
        noWords();
        noWordsShown();
        hiddenWordsTakeNoRoom();
        hiddenWordsAtTheEndMakeNoLine();
        hiddenWordsAtTheBeginning();
        slackAtItsEdges();
        alignOfLinesWithoutWords();
        alignInTheMiddleIsDownwards();
        alignThreeSpreadsSlack();
        alignThreeSpreadsUnevenly();
        alignThreeOfOneWord();
        alignThreeInTheLastLine();
        labelsTakeRoom();
        labelsOfTwoDigits();
        countersAtFirstAndBack();
        levelZeroLeavesCounters();
        columnWidthIsDownwards();
        secondColumnBeginsTwoBehind();
        wordIsOnThePage();
        Check.finish();
    }

    private static void small(String words) {
        start(words);
        smallPage();
        x.insert(0, 0);
    }

    private static void wordsThatJustHaveRoom() {
        small("as many of the words that follow as have room");
        addWords(0, 9, 10);
        due("9 and 10 with 1 between are 20", x.paragraph(0, 0), 1);
        due("nothing is left", x.line(0, 0, 5), 0);
        x.drop(0);
        addWords(0, 11);
        due("9 and 11 are one too many", x.paragraph(0, 0), 2);
        due("what is left of the first", x.line(0, 0, 5), 11);
        due("of the second", x.line(0, 1, 5), 9);
    }

    private static void oneBetweenTwoWords() {
        small("with 1 between two");
        addWords(0, 1, 1, 1, 1, 1, 1, 1, 1, 1, 1, 1);
        due("ten of 1 have 9 between", x.line(0, 0, 1), 10);
        due("1 is left, where no word has room", x.line(0, 0, 5), 1);
        due("the eleventh is on the next line", x.word(0, 10), 100);
        due("the tenth", x.word(0, 9), 18);
    }

    private static void roomIsOneAtLeast() {
        int[] right = {8, 9, 10};
        int[] room = {2, 1, 1};
        for (int i = 0; i < 3; i++) {
            small("its ROOM is 1 at least, LEFT 10 and RIGHT " + right[i]);
            x.style(0, LEFT, 10);
            x.style(0, RIGHT, right[i]);
            due("room", x.line(0, 0, 5), room[i]);
            due("it begins at LEFT nevertheless", x.line(0, 0, 4), 10);
        }
        start("its ROOM is 1 at least, far below 1");
        x.page(20, 10, 2);
        x.insert(0, 0);
        x.style(0, LEFT, 10);
        x.style(0, RIGHT, 10);
        x.style(0, FIRST, 10);
        x.style(0, LEVEL, 3);
        due("room, where the column is 9 wide", x.line(0, 0, 5), 1);
        due("it begins behind the page", x.line(0, 0, 4), 26);
        addWords(0, 1);
        due("a word of 1 has room", x.line(0, 0, 5), 0);
        due("where it is", x.word(0, 0), 26);
        addWords(0, 2);
        due("one of 2 has none, and is on the next line", x.word(0, 1), 110);
        due("nothing is left there either", x.line(0, 1, 5), 0);
    }

    private static void roomOfOneTakesOneWord() {
        small("its ROOM is 1 at least, and it has one word at least");
        x.style(0, LEFT, 10);
        x.style(0, RIGHT, 10);
        addWords(0, 1, 1, 1, 1);
        due("a line for each", x.paragraph(0, 0), 4);
        x.style(0, RIGHT, 8);
        due("2 have room for one", x.paragraph(0, 0), 4);
        x.style(0, RIGHT, 7);
        due("3 have room for two", x.paragraph(0, 0), 2);
    }

    private static void firstLineBeginsElsewhere() {
        small("the first line begins at LEFT + FIRST, others at LEFT");
        x.style(0, LEFT, 4);
        x.style(0, FIRST, 10);
        addWords(0, 6, 16, 16);
        due("14", x.line(0, 0, 4), 14);
        due("6 have room", x.line(0, 0, 5), 0);
        due("4", x.line(0, 1, 4), 4);
        due("16 have room", x.line(0, 1, 5), 0);
        due("4", x.line(0, 2, 4), 4);
        due("the last word", x.word(0, 2), 204);
    }

    private static void firstLineBeginsBelowZero() {
        small("where it begins (can be below 0)");
        x.style(0, FIRST, -5);
        due("LEFT 0 and FIRST -5", x.line(0, 0, 4), -5);
        due("room is from there", x.line(0, 0, 5), 25);
        addWords(0, 12, 12, 20);
        due("25 have room", x.line(0, 0, 1), 2);
        due("the first word", x.word(0, 0), -5);
        due("the second one", x.word(0, 1), 8);
        due("others begin at LEFT", x.line(0, 1, 4), 0);
        due("and have 20", x.line(0, 1, 5), 0);
        x.style(0, LEFT, 5);
        due("LEFT 5 and FIRST -5", x.line(0, 0, 4), 0);
        x.style(0, LEFT, 4);
        due("LEFT 4 and FIRST -5", x.word(0, 0), -1);
    }

    private static void rightTakesRoom() {
        small("its ROOM goes to the column's width less RIGHT");
        x.style(0, RIGHT, 10);
        addWords(0, 5, 4, 5, 5);
        due("5 and 4 are 10", x.line(0, 0, 1), 2);
        due("5 and 5 are 11", x.line(0, 1, 1), 1);
        due("5 are left", x.line(0, 1, 5), 5);
        due("three lines", x.paragraph(0, 0), 3);
    }

    private static void wordTooWide() {
        small("one word at least; SLACK is 0 if the word is too wide");
        addWords(0, 1, 21, 1, 20, 19, 30, 1);
        due("a line for each", x.paragraph(0, 0), 7);
        due("1 alone", x.line(0, 0, 5), 19);
        due("21 are too wide", x.line(0, 1, 5), 0);
        due("nothing is behind it", x.line(0, 1, 1), 1);
        due("1 alone", x.line(0, 2, 5), 19);
        due("20 are not too wide", x.line(0, 3, 5), 0);
        due("19", x.line(0, 4, 5), 1);
        due("30 are too wide", x.line(0, 5, 5), 0);
        due("the last one", x.word(0, 6), 600);
    }

    private static void wordTooWideIsNotAligned() {
        for (int align = 0; align <= 3; align++) {
            small("SLACK is 0 if the word is too wide, ALIGN " + align);
            x.style(0, ALIGN, align);
            x.style(0, LEFT, 3);
            addWords(0, 30, 18, 17);
            due("it begins where it does", x.word(0, 0), 3);
            due("one too wide by 1", x.word(0, 1), 103);
            due("one that just has room", x.word(0, 2), 203);
        }
    }

    private static void manyWordsTooWide() {
        small("up to 16 words, each in a line");
        for (int w = 0; w < 16; w++) {
            x.add(0, 30, 0);
        }
        due("lines", x.paragraph(0, 0), 16);
        due("the last one's first word", x.line(0, 15, 0), 15);
        due("no line 16", x.line(0, 16, 0), -1);
        due("the last word", x.word(0, 15), 1500);
    }

    private static void noWords() {
        small("a paragraph without SHOWN words has one line without any");
        due("lines", x.paragraph(0, 0), 1);
        due("the first word is how many there are", x.line(0, 0, 0), 0);
        due("words", x.line(0, 0, 1), 0);
        due("column", x.line(0, 0, 2), 0);
        due("from the top", x.line(0, 0, 3), 0);
        due("slack", x.line(0, 0, 5), 20);
        due("the column is filled", x.column(0, 4), 1);
        due("by it", x.column(0, 2), 1);
        x.style(0, HEIGHT, 4);
        due("it needs its style's height", x.column(0, 4), 4);
        x.style(0, LEVEL, 2);
        due("it has its label", x.line(0, 0, 4), 4);
        due("which takes room", x.line(0, 0, 5), 16);
    }

    private static void noWordsShown() {
        small("without SHOWN words, all GONE in VIEW 1");
        x.add(0, 20, 3);
        x.add(0, 20, 3);
        x.add(0, 20, 3);
        x.insert(1, 0);
        x.track(true, 1);
        x.drop(0);
        x.drop(0);
        due("one is shown", x.line(0, 0, 0), 0);
        x.drop(0);
        due("lines", x.paragraph(0, 0), 1);
        due("the first word is how many there are", x.line(0, 0, 0), 3);
        due("words", x.line(0, 0, 1), 0);
        due("slack", x.line(0, 0, 5), 20);
        due("notes", x.column(0, 3), 0);
        due("the next one is below", x.line(1, 0, 3), 1);
        due("no second line", x.line(0, 1, 0), -1);
        due("hidden", x.word(0, 2), -100);
        small("without SHOWN words, all NEW in VIEW 2");
        x.track(true, 2);
        x.add(0, 20, 3);
        x.add(0, 20, 3);
        due("lines", x.paragraph(0, 0), 1);
        due("the first word is how many there are", x.line(0, 0, 0), 2);
        due("words", x.line(0, 0, 1), 0);
        due("notes", x.column(0, 3), 0);
        x.track(true, 1);
        due("view 1 shows them", x.paragraph(0, 0), 2);
        due("with their notes", x.column(0, 3), 6);
    }

    /** Words 0 plain, 1 and 2 gone, 3 and 4 new. */
    private static void plainGoneNew(String words) {
        small(words);
        addWords(0, 6, 5, 4);
        x.track(true, 0);
        x.drop(0);
        x.drop(0);
        addWords(0, 3, 2);
    }

    private static void hiddenWordsTakeNoRoom() {
        plainGoneNew("the SHOWN words that follow");
        due("view 0", placesOf(0), List.of(0, 7, 13, 100, 104));
        x.track(false, 1);
        due("view 1", placesOf(0), List.of(0, -100, -100, 7, 11));
        due("one line", x.paragraph(0, 0), 1);
        due("three words", x.line(0, 0, 1), 3);
        due("6, 3 and 2 and 2 between", x.line(0, 0, 5), 7);
        x.track(false, 2);
        due("view 2", placesOf(0), List.of(0, 7, 13, -100, -100));
        due("6, 5 and 4 and 2 between", x.line(0, 0, 5), 3);
        x.add(0, 20, 0);
        due("one behind those hidden", x.word(0, 5), 100);
        due("the second line begins with it", x.line(0, 1, 0), 5);
    }

    private static void hiddenWordsAtTheEndMakeNoLine() {
        small("as many of the SHOWN words that follow, none behind the last");
        addWords(0, 20, 20, 20);
        x.track(true, 1);
        x.drop(0);
        due("two lines", x.paragraph(0, 0), 2);
        x.drop(0);
        due("one line", x.paragraph(0, 0), 1);
        due("of the first word", x.line(0, 0, 1), 1);
        x.style(0, ALIGN, 3);
        x.add(0, 20, 0);
        due("a new one makes a line again", x.line(0, 1, 0), 3);
    }

    private static void hiddenWordsAtTheBeginning() {
        small("the number of its first word, where those before are not SHOWN");
        addWords(0, 5, 5);
        x.track(true, 1);
        x.drop(0);
        x.drop(0);
        addWords(0, 8, 20);
        due("first line", x.line(0, 0, 0), 2);
        due("one word", x.line(0, 0, 1), 1);
        due("second line", x.line(0, 1, 0), 3);
        due("it begins at 0", x.word(0, 2), 0);
        due("two lines", x.paragraph(0, 0), 2);
    }

    private static void slackAtItsEdges() {
        small("SLACK is what is left of the ROOM");
        due("all of it", x.line(0, 0, 5), 20);
        addWords(0, 1);
        due("but 1", x.line(0, 0, 5), 19);
        addWords(0, 16);
        due("2", x.line(0, 0, 5), 2);
        addWords(0, 1);
        due("0", x.line(0, 0, 5), 0);
        due("three words", x.line(0, 0, 1), 3);
        x.step(true);
        addWords(0, 2);
        due("2 where a word of 2 has no room", x.line(0, 0, 5), 2);
    }

    private static void alignOfLinesWithoutWords() {
        int[] begins = {2, 20, 11, 2};
        for (int align = 0; align <= 3; align++) {
            small("a line without words, ALIGN " + align);
            x.style(0, ALIGN, align);
            x.style(0, LEFT, 2);
            due("slack is the room", x.line(0, 0, 5), 18);
            due("begins", x.line(0, 0, 4), begins[align]);
        }
    }

    private static void alignInTheMiddleIsDownwards() {
        int[] widths = {20, 19, 18, 17, 1};
        int[] begins = {0, 0, 1, 1, 9};
        for (int i = 0; i < widths.length; i++) {
            small("2 half of it (downwards), a word of " + widths[i]);
            x.style(0, ALIGN, 2);
            addWords(0, widths[i]);
            due("slack", x.line(0, 0, 5), 20 - widths[i]);
            due("line", x.line(0, 0, 4), begins[i]);
            due("word", x.word(0, 0), begins[i]);
            x.style(0, ALIGN, 1);
            due("1 SLACK further", x.word(0, 0), 20 - widths[i]);
        }
        small("2 half of it (downwards), below 0");
        x.style(0, ALIGN, 2);
        x.style(0, FIRST, -5);
        addWords(0, 20);
        due("5 are left of 25", x.line(0, 0, 5), 5);
        due("2 behind -5", x.word(0, 0), -3);
        x.style(0, ALIGN, 1);
        due("5 behind -5", x.word(0, 0), 0);
    }

    private static void alignThreeSpreadsSlack() {
        int[][] widths = {{6, 6, 6}, {5, 6, 6}, {5, 5, 6}, {5, 5, 5}, {4, 5, 5}};
        List<List<Integer>> places = List.of(List.of(0, 7, 14, 100), List.of(0, 7, 14, 100), List.of(0, 7, 14, 100),
            List.of(0, 8, 15, 100), List.of(0, 7, 15, 100));
        for (int slack = 0; slack <= 4; slack++) {
            small("3 each gap is wider by SLACK / gaps, and the first SLACK % gaps by 1 more, SLACK " + slack);
            x.style(0, ALIGN, 3);
            addWords(0, widths[slack]);
            addWords(0, 20);
            due("slack", x.line(0, 0, 5), slack);
            due("begins where it does", x.line(0, 0, 4), 0);
            due("words", placesOf(0), places.get(slack));
        }
    }

    /** Three gaps, and 5 to spread: two of them get 2 more, the last one 1; then 1, then 10. */
    private static void alignThreeSpreadsUnevenly() {
        small("the first SLACK % gaps of them by 1 more, of three gaps");
        x.style(0, ALIGN, 3);
        addWords(0, 3, 3, 3, 3, 20);
        due("slack", x.line(0, 0, 5), 5);
        due("words", placesOf(0), List.of(0, 6, 12, 17, 100));
        small("the first SLACK % gaps of them by 1 more, fewer than gaps");
        x.style(0, ALIGN, 3);
        addWords(0, 4, 4, 4, 4, 20);
        due("slack", x.line(0, 0, 5), 1);
        due("words", placesOf(0), List.of(0, 6, 11, 16, 100));
        small("of one gap all of it");
        x.style(0, ALIGN, 3);
        addWords(0, 4, 5, 20);
        due("slack", x.line(0, 0, 5), 10);
        due("words", placesOf(0), List.of(0, 15, 100));
    }

    private static void alignThreeOfOneWord() {
        small("3 each of the gaps between its words, where there are none");
        x.style(0, ALIGN, 3);
        addWords(0, 7, 20, 30, 6);
        due("slack", x.line(0, 0, 5), 13);
        due("words", placesOf(0), List.of(0, 100, 200, 300));
    }

    private static void alignThreeInTheLastLine() {
        small("but in the last line of a paragraph (there it is as 0)");
        x.style(0, ALIGN, 3);
        addWords(0, 5, 5, 5);
        due("slack", x.line(0, 0, 5), 3);
        due("the only line", placesOf(0), List.of(0, 6, 12));
        addWords(0, 3);
        due("not the last any more", placesOf(0), List.of(0, 8, 15, 100));
        addWords(0, 3);
        due("the last one", placesOf(0), List.of(0, 8, 15, 100, 104));
        x.track(true, 1);
        x.drop(0);
        x.drop(0);
        due("the last with words that are shown", placesOf(0), List.of(0, 6, 12, -100, -100));
    }

    private static void labelsTakeRoom() {
        small("as much more as the LABEL is wide");
        x.style(0, LEVEL, 1);
        addWords(0, 8, 9, 20);
        due("1 is 2 wide", x.line(0, 0, 4), 2);
        due("18 have room", x.line(0, 0, 1), 2);
        due("nothing is left", x.line(0, 0, 5), 0);
        due("others begin at LEFT", x.line(0, 1, 4), 0);
        x.style(0, LEVEL, 3);
        due("0.0.1 is 6 wide", x.line(0, 0, 4), 6);
        due("14 have not room for both", x.line(0, 0, 1), 1);
        x.style(0, FIRST, -5);
        due("together with FIRST", x.line(0, 0, 4), 1);
        x.style(0, LEVEL, 0);
        due("without a label", x.line(0, 0, 4), -5);
    }

    private static void labelsOfTwoDigits() {
        start("each as wide as it has digits, and 1");
        x.style(1, LEVEL, 1);
        x.style(2, LEVEL, 2);
        x.style(3, LEVEL, 3);
        for (int p = 0; p < 24; p++) {
            x.insert(p, 1);
        }
        due("9", x.paragraph(8, 1), 90000);
        due("9 is 2 wide", x.line(8, 0, 4), 2);
        due("10", x.paragraph(9, 1), 100000);
        due("10 is 3 wide", x.line(9, 0, 4), 3);
        due("24, the most", x.paragraph(23, 1), 240000);
        due("is 3 wide", x.line(23, 0, 4), 3);
        x.restyle(23, 2);
        due("23.1", x.paragraph(23, 1), 230100);
        due("is 5 wide", x.line(23, 0, 4), 5);
        x.restyle(23, 3);
        due("23.0.1", x.paragraph(23, 1), 230001);
        due("is 7 wide", x.line(23, 0, 4), 7);
        for (int p = 0; p < 24; p++) {
            x.restyle(p, 2);
        }
        due("0.9 is 4 wide", x.line(8, 0, 4), 4);
        due("0.10 is 5 wide", x.line(9, 0, 4), 5);
        due("0.24", x.paragraph(23, 1), 2400);
        for (int p = 0; p < 24; p++) {
            x.restyle(p, 3);
        }
        due("0.0.9 is 6 wide", x.line(8, 0, 4), 6);
        due("0.0.10 is 7 wide", x.line(9, 0, 4), 7);
        due("0.0.24", x.paragraph(23, 1), 24);
    }

    private static void countersAtFirstAndBack() {
        start("counter n one more, and those above n 0");
        x.style(1, LEVEL, 1);
        x.style(2, LEVEL, 2);
        x.style(3, LEVEL, 3);
        int[] styles = {3, 3, 2, 3, 3, 2, 1, 3, 2, 3, 1, 1, 2};
        int[] labels = {1, 2, 100, 101, 102, 200, 10000, 10001, 10100, 10101, 20000, 30000, 30100};
        for (int p = 0; p < styles.length; p++) {
            x.insert(p, styles[p]);
        }
        for (int p = 0; p < styles.length; p++) {
            due("label " + p, x.paragraph(p, 1), labels[p]);
        }
    }

    private static void levelZeroLeavesCounters() {
        start("a style with LEVEL n above 0");
        x.style(1, LEVEL, 1);
        x.style(2, LEVEL, 2);
        x.style(3, LEVEL, 3);
        int[] styles = {1, 0, 2, 0, 3, 0, 3, 4, 2};
        int[] labels = {10000, 0, 10100, 0, 10101, 0, 10102, 0, 10200};
        for (int p = 0; p < styles.length; p++) {
            x.insert(p, styles[p]);
        }
        for (int p = 0; p < styles.length; p++) {
            due("label " + p, x.paragraph(p, 1), labels[p]);
        }
        due("no label, nothing more", x.line(1, 0, 4), 0);
    }

    private static void columnWidthIsDownwards() {
        int[] pages = {20, 21, 22, 79, 80};
        int[] columns = {9, 9, 10, 38, 39};
        for (int i = 0; i < pages.length; i++) {
            start("2 are each (width - 2) / 2 wide (downwards), of " + pages[i]);
            x.page(pages[i], 10, 2);
            x.insert(0, 0);
            due("room", x.line(0, 0, 5), columns[i]);
            x.page(pages[i], 10, 1);
            due("1 is as wide as the page", x.line(0, 0, 5), pages[i]);
        }
    }

    private static void secondColumnBeginsTwoBehind() {
        int[] pages = {20, 21, 22, 79, 80};
        int[] second = {11, 11, 12, 40, 41};
        for (int i = 0; i < pages.length; i++) {
            start("the second one begins 2 behind the end of the first, of " + pages[i]);
            x.page(pages[i], 10, 2);
            x.style(0, BREAK, 1);
            for (int p = 0; p < 4; p++) {
                x.insert(p, 0);
                x.add(p, 1, 0);
            }
            due("first one", x.word(0, 0), 0);
            due("second one", x.word(1, 0), second[i]);
            due("first one of the second page", x.word(2, 0), 0);
            due("second one of the second page", x.word(3, 0), second[i]);
            due("in the column the line begins at 0", x.line(3, 0, 4), 0);
            x.page(pages[i], 10, 1);
            due("with 1 on a page", x.word(1, 0), 0);
        }
    }

    private static void wordIsOnThePage() {
        start("100 times its line, and where on the page it begins (that can be below 0)");
        x.page(20, 10, 2);
        x.style(0, BREAK, 1);
        x.style(0, FIRST, -5);
        x.insert(0, 0);
        x.insert(1, 0);
        addWords(0, 9, 9);
        addWords(1, 9, 9);
        due("below 0", x.word(0, 0), -5);
        due("on the next line", x.word(0, 1), 100);
        due("in the second column", x.word(1, 0), 6);
        due("on its next line", x.word(1, 1), 111);
        x.style(0, LEFT, 10);
        x.style(0, FIRST, 10);
        due("farther than the page", x.word(1, 0), 31);
        due("a line farther", x.word(1, 1), 121);
    }
}
