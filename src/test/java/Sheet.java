import java.util.ArrayList;
import java.util.List;

/** What tests share: the object that is tried, the sentence it is tried for, and ways to fill it. */
abstract class Sheet {
    static final int MIN = Integer.MIN_VALUE;
    static final int MAX = Integer.MAX_VALUE;

    // What a style has, by number.
    static final int LEFT = 0, RIGHT = 1, FIRST = 2, BEFORE = 3, AFTER = 4, HEIGHT = 5;
    static final int ALIGN = 6, LEVEL = 7, WHOLE = 8, NEXT = 9, BREAK = 10, PAIRS = 11;

    static Counted x;
    private static String at;

    /** Begins a case of its own, on a new object, for these words of the document. */
    static void start(String words) {
        at = words;
        x = new Counted();
    }

    static void due(String what, int got, int want) {
        Check.due(at + ": " + what, got, want);
    }

    static void due(String what, boolean got, boolean want) {
        Check.due(at + ": " + what, got, want);
    }

    static void due(String what, List<Integer> got, List<Integer> want) {
        boolean same = got.equals(want);
        Check.due(at + ": " + what + (same ? "" : ": " + got + " and not " + want), same, true);
    }

    /** The narrowest and lowest page: 20 wide, 10 high. */
    static void smallPage() {
        x.page(20, 10, 1);
    }

    static void addWords(int p, int... widths) {
        for (int width : widths) {
            x.add(p, width, 0);
        }
    }

    /** A paragraph at the end, of words that fill a line of the small page each. */
    static int paragraphOfLines(int style, int lines) {
        int p = x.insert(x.total(2), style) - 1;
        for (int i = 0; i < lines; i++) {
            x.add(p, 20, 0);
        }
        return p;
    }

    /** A paragraph at the end, of one line of the small page, which has notes of these heights. */
    static int lineWithNotes(int style, int... notes) {
        int p = x.insert(x.total(2), style) - 1;
        for (int note : notes) {
            x.add(p, 1, note);
        }
        return p;
    }

    /** In which column each line of a paragraph is. */
    static List<Integer> columnsOf(int p) {
        List<Integer> columns = new ArrayList<>();
        for (int k = 0; k < x.paragraph(p, 0); k++) {
            columns.add(x.line(p, k, 2));
        }
        return columns;
    }

    /** Where each word of a paragraph is. */
    static List<Integer> placesOf(int p) {
        List<Integer> places = new ArrayList<>();
        for (int w = 0; w < x.paragraph(p, 4); w++) {
            places.add(x.word(p, w));
        }
        return places;
    }

    /** How many lines each column has. */
    static List<Integer> linesOfColumns() {
        List<Integer> lines = new ArrayList<>();
        for (int c = 0; c < x.total(0); c++) {
            lines.add(x.column(c, 2));
        }
        return lines;
    }

    /** Everything that can be asked for of what is there. */
    static List<Integer> everything(Counted y) {
        List<Integer> answers = new ArrayList<>();
        for (int what = 0; what <= 4; what++) {
            answers.add(y.total(what));
        }
        for (int c = 0; c < answers.get(0); c++) {
            for (int what = 0; what <= 4; what++) {
                answers.add(y.column(c, what));
            }
        }
        for (int p = 0; p < answers.get(2); p++) {
            int lines = y.paragraph(p, 0);
            int words = y.paragraph(p, 4);
            answers.add(lines);
            answers.add(words);
            answers.add(y.paragraph(p, 1));
            answers.add(y.paragraph(p, 2));
            answers.add(y.paragraph(p, 3));
            answers.add(y.paragraph(p, 5));
            for (int k = 0; k < lines; k++) {
                for (int what = 0; what <= 5; what++) {
                    answers.add(y.line(p, k, what));
                }
            }
            for (int w = 0; w < words; w++) {
                answers.add(y.word(p, w));
            }
        }
        return answers;
    }
}
