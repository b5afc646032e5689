import java.util.ArrayList;
import java.util.List;

/**
 * The document's words once more, in plain Java with objects, lists and recursion, and with lines
 * tried out in columns instead of sums: what PageSetter answers is compared with it.
 */
final class PlainModel {
    static final int BAD = -1, FULL = -2, HIDDEN = -100;

    enum State { PLAIN, NEW, GONE }

    static final class Word {
        int width;
        int mark = -1;
        int note;
        State state;
        int line;
        int x;

        Word copy() {
            Word c = new Word();
            c.width = width;
            c.mark = mark;
            c.note = note;
            c.state = state;
            return c;
        }
    }

    static final class Paragraph {
        int style;
        int mark = -1;
        List<Word> words = new ArrayList<>();
        int label;
        int labelWidth;
        List<Line> lines = new ArrayList<>();

        Paragraph copy() {
            Paragraph c = new Paragraph();
            c.style = style;
            c.mark = mark;
            for (Word w : words) {
                c.words.add(w.copy());
            }
            return c;
        }
    }

    static final class Line {
        int paragraph;
        int number;
        List<Word> words = new ArrayList<>();
        int begin;
        int room;
        int used;
        int height;
        int notes;
        int column;
        int top;

        int slack() {
            return Math.max(0, room - used);
        }
    }

    static final class Column {
        List<Line> lines = new ArrayList<>();
        int filled;
        int notes;

        Column copy() {
            Column c = new Column();
            c.lines.addAll(lines);
            c.filled = filled;
            c.notes = notes;
            return c;
        }
    }

    static final class Doc {
        List<Paragraph> paragraphs = new ArrayList<>();
        int[][] styles = new int[6][12];
        int width = 40;
        int height = 20;
        int columns = 1;

        Doc copy() {
            Doc c = new Doc();
            for (Paragraph p : paragraphs) {
                c.paragraphs.add(p.copy());
            }
            for (int s = 0; s < 6; s++) {
                c.styles[s] = styles[s].clone();
            }
            c.width = width;
            c.height = height;
            c.columns = columns;
            return c;
        }
    }

    private static final int[][] RANGE = {
        {0, 10}, {0, 10}, {-5, 10}, {0, 9}, {0, 9}, {1, 4}, {0, 3}, {0, 3}, {0, 1}, {0, 1}, {0, 1}, {0, 1}};

    private Doc doc = new Doc();
    private boolean tracking = false;
    private int view = 0;
    private final List<Doc> undo = new ArrayList<>();
    private final List<Doc> redo = new ArrayList<>();
    private List<Column> columns = new ArrayList<>();
    private int rounds;

    PlainModel() {
        for (int[] s : doc.styles) {
            s[5] = 1;
        }
        layout();
    }

    private boolean has(int p) {
        return p >= 0 && p < doc.paragraphs.size();
    }

    /** Called before a change: what was is kept, and what could be done again is not any more. */
    private void before() {
        undo.add(doc.copy());
        if (undo.size() > 20) {
            undo.remove(0);
        }
        redo.clear();
    }

    int insert(int p, int style) {
        if (p < 0 || p > doc.paragraphs.size() || style < 0 || style > 5) return BAD;
        if (doc.paragraphs.size() == 24) return FULL;
        before();
        Paragraph n = new Paragraph();
        n.style = style;
        doc.paragraphs.add(p, n);
        layout();
        return doc.paragraphs.size();
    }

    int remove(int p) {
        if (!has(p)) return BAD;
        before();
        doc.paragraphs.remove(p);
        layout();
        return doc.paragraphs.size();
    }

    boolean restyle(int p, int style) {
        if (!has(p) || style < 0 || style > 5) return false;
        before();
        doc.paragraphs.get(p).style = style;
        layout();
        return true;
    }

    boolean mark(int p, int m) {
        if (!has(p) || m < -1 || m > 7) return false;
        before();
        doc.paragraphs.get(p).mark = m;
        layout();
        return true;
    }

    int add(int p, int width, int note) {
        if (!has(p) || width < -8 || width == 0 || width > 30 || note < 0 || note > 3) return BAD;
        if (doc.paragraphs.get(p).words.size() == 16) return FULL;
        before();
        Word w = new Word();
        w.width = width;
        w.mark = width < 0 ? -1 - width : -1;
        w.note = note;
        w.state = tracking ? State.NEW : State.PLAIN;
        doc.paragraphs.get(p).words.add(w);
        layout();
        return doc.paragraphs.get(p).words.size();
    }

    int drop(int p) {
        if (!has(p)) return BAD;
        Word last = null;
        for (Word w : doc.paragraphs.get(p).words) {
            if (w.state != State.GONE) last = w;
        }
        if (last == null) return BAD;
        before();
        if (last.state == State.PLAIN && tracking) {
            last.state = State.GONE;
        } else {
            doc.paragraphs.get(p).words.remove(last);
        }
        layout();
        return doc.paragraphs.get(p).words.size();
    }

    boolean style(int style, int what, int v) {
        if (style < 0 || style > 5 || what < 0 || what > 11) return false;
        if (v < RANGE[what][0] || v > RANGE[what][1]) return false;
        before();
        doc.styles[style][what] = v;
        layout();
        return true;
    }

    boolean page(int width, int height, int columns) {
        if (width < 20 || width > 80 || height < 10 || height > 60 || columns < 1 || columns > 2) return false;
        before();
        doc.width = width;
        doc.height = height;
        doc.columns = columns;
        layout();
        return true;
    }

    boolean track(boolean on, int view) {
        if (view < 0 || view > 2) return false;
        tracking = on;
        this.view = view;
        layout();
        return true;
    }

    int resolve(int p, boolean accept) {
        if (!has(p)) return BAD;
        int changed = paragraph(p, 5);
        if (changed == 0) return 0;
        before();
        List<Word> words = doc.paragraphs.get(p).words;
        words.removeIf(w -> w.state == (accept ? State.GONE : State.NEW));
        words.forEach(w -> w.state = State.PLAIN);
        layout();
        return changed;
    }

    boolean step(boolean back) {
        List<Doc> from = back ? undo : redo;
        List<Doc> to = back ? redo : undo;
        if (from.isEmpty()) return false;
        to.add(doc);
        doc = from.remove(from.size() - 1);
        layout();
        return true;
    }

    int paragraph(int p, int what) {
        if (!has(p) || what < 0 || what > 5) return BAD - 1;
        Paragraph g = doc.paragraphs.get(p);
        int changed = 0;
        for (Word w : g.words) {
            changed += w.state == State.PLAIN ? 0 : 1;
        }
        return new int[] {g.lines.size(), g.label, g.style, g.mark, g.words.size(), changed}[what];
    }

    int line(int p, int k, int what) {
        if (!has(p) || k < 0 || k >= doc.paragraphs.get(p).lines.size() || what < 0 || what > 5) return BAD;
        Paragraph g = doc.paragraphs.get(p);
        Line l = g.lines.get(k);
        int first = l.words.isEmpty() ? g.words.size() : g.words.indexOf(l.words.get(0));
        return new int[] {first, l.words.size(), l.column, l.top, begin(g, l), l.slack()}[what];
    }

    int word(int p, int w) {
        if (!has(p) || w < 0 || w >= doc.paragraphs.get(p).words.size()) return BAD;
        Paragraph g = doc.paragraphs.get(p);
        Word x = g.words.get(w);
        if (!shown(x)) return HIDDEN;
        for (Line l : g.lines) {
            if (l.words.contains(x)) {
                int columnBegins = l.column % doc.columns == 1 ? columnWidth() + 2 : 0;
                return 100 * l.number + columnBegins + positionOf(g, l, x);
            }
        }
        throw new IllegalStateException("a shown word without a line");
    }

    int column(int c, int what) {
        if (c < 0 || c >= columns.size() || what < 0 || what > 4) return BAD;
        Column d = columns.get(c);
        Line f = d.lines.get(0);
        return new int[] {f.paragraph, f.number, d.lines.size(), d.notes, d.filled}[what];
    }

    int total(int what) {
        if (what < 0 || what > 4) return BAD;
        return new int[] {columns.size(), rounds, doc.paragraphs.size(), undo.size(), redo.size()}[what];
    }

    private boolean shown(Word w) {
        return view == 0 || view == 1 && w.state != State.GONE || view == 2 && w.state != State.NEW;
    }

    private int columnWidth() {
        return doc.columns == 1 ? doc.width : (doc.width - 2) / 2;
    }

    private int of(Paragraph g, int what) {
        return doc.styles[g.style][what];
    }

    private int begin(Paragraph g, Line l) {
        int align = of(g, 6);
        return l.begin + (align == 1 ? l.slack() : align == 2 ? l.slack() / 2 : 0);
    }

    private int positionOf(Paragraph g, Line l, Word x) {
        int i = l.words.indexOf(x);
        int gaps = l.words.size() - 1;
        boolean last = l.number == g.lines.size() - 1;
        int at = begin(g, l);
        for (int j = 0; j < i; j++) {
            at += l.words.get(j).width + 1;
        }
        if (of(g, 6) == 3 && !last && gaps > 0) {
            at += i * (l.slack() / gaps) + Math.min(i, l.slack() % gaps);
        }
        return at;
    }

    private static int digits(int n) {
        return String.valueOf(n).length();
    }

    private void layout() {
        number();
        setReferences(nothing());
        rounds = 0;
        while (true) {
            rounds++;
            breakLines();
            fill();
            int[] next = pages();
            if (rounds == 4 || !setWouldChange(next)) {
                return;
            }
            setReferences(next);
        }
    }

    private static int[] nothing() {
        return new int[] {1, 1, 1, 1, 1, 1, 1, 1};
    }

    private int[] pages() {
        int[] widths = nothing();
        for (int i = doc.paragraphs.size() - 1; i >= 0; i--) {
            Paragraph g = doc.paragraphs.get(i);
            if (g.mark >= 0) {
                widths[g.mark] = digits(g.lines.get(0).column / doc.columns + 1);
            }
        }
        return widths;
    }

    private boolean setWouldChange(int[] widths) {
        return doc.paragraphs.stream().flatMap(g -> g.words.stream())
            .anyMatch(w -> w.mark >= 0 && w.width != widths[w.mark]);
    }

    private void setReferences(int[] widths) {
        doc.paragraphs.stream().flatMap(g -> g.words.stream())
            .filter(w -> w.mark >= 0).forEach(w -> w.width = widths[w.mark]);
    }

    private void number() {
        int[] counter = new int[4];
        int[] weight = {0, 10000, 100, 1};
        for (Paragraph g : doc.paragraphs) {
            int n = of(g, 7);
            g.label = 0;
            g.labelWidth = 0;
            if (n > 0) {
                counter[n]++;
                for (int i = n + 1; i <= 3; i++) {
                    counter[i] = 0;
                }
            }
            for (int i = 1; i <= n; i++) {
                g.label += counter[i] * weight[i];
                g.labelWidth += digits(counter[i]) + 1;
            }
        }
    }

    private void breakLines() {
        for (int i = 0; i < doc.paragraphs.size(); i++) {
            Paragraph g = doc.paragraphs.get(i);
            g.lines.clear();
            openLine(g, i);
            for (Word w : g.words) {
                if (!shown(w)) {
                    continue;
                }
                Line l = g.lines.get(g.lines.size() - 1);
                if (!l.words.isEmpty() && l.used + 1 + w.width > l.room) {
                    l = openLine(g, i);
                }
                l.used += l.words.isEmpty() ? w.width : 1 + w.width;
                l.words.add(w);
                l.notes += w.note;
            }
        }
    }

    private Line openLine(Paragraph g, int i) {
        Line l = new Line();
        l.paragraph = i;
        l.number = g.lines.size();
        l.begin = of(g, 0) + (l.number == 0 ? of(g, 2) + g.labelWidth : 0);
        l.room = Math.max(1, columnWidth() - of(g, 1) - l.begin);
        l.height = of(g, 5);
        g.lines.add(l);
        return l;
    }

    private boolean stiff(Paragraph g) {
        return of(g, 8) == 1 || of(g, 11) == 1 && g.lines.size() < 4;
    }

    private List<Line> head(Paragraph g) {
        return stiff(g) ? g.lines : g.lines.subList(0, of(g, 11) == 1 ? 2 : 1);
    }

    private List<Line> goesWith(int i) {
        Paragraph g = doc.paragraphs.get(i);
        if (of(g, 9) == 0 || i == doc.paragraphs.size() - 1) {
            return head(g);
        }
        List<Line> all = new ArrayList<>(g.lines);
        all.addAll(goesWith(i + 1));
        return all;
    }

    private int gap(Column c, Line l) {
        if (c.lines.isEmpty() || l.number > 0) {
            return 0;
        }
        Paragraph above = doc.paragraphs.get(l.paragraph - 1);
        return Math.max(of(above, 4), of(doc.paragraphs.get(l.paragraph), 3));
    }

    private boolean fits(Column c, Line l) {
        return l.height + l.notes <= doc.height - c.filled - gap(c, l) - c.notes;
    }

    private void put(Column c, Line l) {
        c.filled += gap(c, l) + l.height;
        c.notes += l.notes;
        c.lines.add(l);
    }

    private boolean allFit(Column c, List<Line> lines) {
        Column trial = c.copy();
        for (Line l : lines) {
            if (!fits(trial, l)) {
                return false;
            }
            put(trial, l);
        }
        return true;
    }

    private boolean beginsNew(Column c, int i) {
        Paragraph g = doc.paragraphs.get(i);
        if (c.lines.isEmpty()) return false;
        if (of(g, 10) == 1) return true;
        boolean wouldInEmpty = allFit(new Column(), goesWith(i));
        if (wouldInEmpty) return !allFit(c, goesWith(i));
        return !allFit(c, head(g));
    }

    private boolean turns(Column c, Paragraph g, Line l) {
        if (!fits(c, l)) return true;
        if (of(g, 11) == 0 || stiff(g) || l.number != g.lines.size() - 2) return false;
        return !allFit(c, g.lines.subList(l.number, l.number + 2));
    }

    private void fill() {
        columns = new ArrayList<>();
        Column c = new Column();
        for (int i = 0; i < doc.paragraphs.size(); i++) {
            Paragraph g = doc.paragraphs.get(i);
            for (Line l : g.lines) {
                boolean isNew = l.number == 0 ? beginsNew(c, i) : turns(c, g, l);
                if (isNew) {
                    c = new Column();
                }
                if (c.lines.isEmpty()) {
                    columns.add(c);
                }
                l.column = columns.size() - 1;
                l.top = c.filled + gap(c, l);
                put(c, l);
            }
        }
    }
}
