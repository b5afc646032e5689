/**
 * A document of paragraphs that is edited, with changes tracked and steps done back and again,
 * and laid out in lines, columns and pages. README.md tells how to use it.
 */
public final class PageSetter {
    public static final int BAD = -1, FULL = -2, HIDDEN = -100;

    private static final int MAX_PARAGRAPHS = 24;
    private static final int MAX_WORDS = 16;
    private static final int ALL_WORDS = 384;
    private static final int MARKS = 8;
    private static final int STYLES = 6;
    private static final int MAX_STEPS = 20;
    private static final int MAX_ROUNDS = 4;
    private static final int COLUMN_GAP = 2;

    // What a style has, by the numbers that style() takes.
    private static final int LEFT = 0, RIGHT = 1, FIRST = 2, BEFORE = 3, AFTER = 4, HEIGHT = 5;
    private static final int ALIGN = 6, LEVEL = 7, WHOLE = 8, NEXT = 9, BREAK = 10, PAIRS = 11;
    private static final int TRAITS = 12;

    private static final int ALIGN_RIGHT = 1, ALIGN_MIDDLE = 2, ALIGN_BOTH = 3;

    private static final int PLAIN = 0, NEW = 1, GONE = 2;

    // The whole document lies in one array, so that keeping a step is one copy:
    // the counts and the page, then the styles, then a record for each paragraph.
    private static final int COUNT = 0, PAGE_WIDTH = 1, PAGE_HEIGHT = 2, PAGE_COLUMNS = 3;
    private static final int STYLE_CELLS = 4;
    private static final int RECORDS = 76;
    private static final int DOC_SIZE = 1300;

    // A paragraph's record: its own cells, then those of each word.
    private static final int STYLE = 0, MARK = 1, WORDS = 2, WORD_CELLS = 3;
    private static final int RECORD_SIZE = 51;
    private static final int WIDTH = 0, NOTE = 1, STATE = 2;
    private static final int WORD_SIZE = 3;

    // One state more than steps: the states before each step that is kept, and the one now.
    private static final int SLOTS = 21;
    private static final int KEPT_SIZE = 27300;

    private final int[] doc = new int[DOC_SIZE];
    private boolean tracking = false;
    private int view = 0;

    // A ring of states: those that can be got back lie behind slotNow, those to come before it.
    private final int[] kept = new int[KEPT_SIZE];
    private int slotNow = 0;
    private int stepsBack = 0;
    private int stepsAgain = 0;

    // All below is worked out from the above when it is asked for and has become stale.
    private boolean stale = true;
    private int rounds = 0;
    private final int[] referenceWidth = new int[MARKS];

    private final int[] labelValue = new int[MAX_PARAGRAPHS];
    private final int[] labelWidth = new int[MAX_PARAGRAPHS];
    private final int[] lineCount = new int[MAX_PARAGRAPHS];
    private final int[] gapBefore = new int[MAX_PARAGRAPHS];
    private final int[] headNeeds = new int[MAX_PARAGRAPHS];
    private final int[] groupNeeds = new int[MAX_PARAGRAPHS];

    private final int[] wordLine = new int[ALL_WORDS];
    private final int[] wordLeft = new int[ALL_WORDS];

    // A paragraph has not more lines than words can be in it, so lines are numbered as words are.
    private final int[] lineFirst = new int[ALL_WORDS];
    private final int[] lineWords = new int[ALL_WORDS];
    private final int[] lineLeft = new int[ALL_WORDS];
    private final int[] lineSlack = new int[ALL_WORDS];
    private final int[] lineNotes = new int[ALL_WORDS];
    private final int[] lineColumn = new int[ALL_WORDS];
    private final int[] lineTop = new int[ALL_WORDS];

    // No column is empty, so there are not more of them than lines.
    private int columnCount = 0;
    private final int[] columnParagraph = new int[ALL_WORDS];
    private final int[] columnFirst = new int[ALL_WORDS];
    private final int[] columnLines = new int[ALL_WORDS];
    private final int[] columnNotes = new int[ALL_WORDS];
    private final int[] columnFilled = new int[ALL_WORDS];

    public PageSetter() {
        doc[PAGE_WIDTH] = 40;
        doc[PAGE_HEIGHT] = 20;
        doc[PAGE_COLUMNS] = 1;
        for (int s = 0; s < STYLES; s++) {
            doc[STYLE_CELLS + s * TRAITS + HEIGHT] = 1;
        }
        saveState();
    }

    public int insert(int p, int style) {
        int count = doc[COUNT];
        if (!isWithin(p, 0, count) || !isWithin(style, 0, STYLES - 1)) {
            return BAD;
        }
        if (count == MAX_PARAGRAPHS) {
            return FULL;
        }
        for (int q = count; q > p; q--) {
            copyRecord(q - 1, q);
        }
        int at = recordAt(p);
        doc[at + STYLE] = style;
        doc[at + MARK] = -1;
        doc[at + WORDS] = 0;
        doc[COUNT] = count + 1;
        keepStep();
        return count + 1;
    }

    public int remove(int p) {
        if (!isParagraph(p)) {
            return BAD;
        }
        int left = doc[COUNT] - 1;
        for (int q = p; q < left; q++) {
            copyRecord(q + 1, q);
        }
        doc[COUNT] = left;
        keepStep();
        return left;
    }

    public boolean restyle(int p, int style) {
        if (!isParagraph(p) || !isWithin(style, 0, STYLES - 1)) {
            return false;
        }
        doc[recordAt(p) + STYLE] = style;
        keepStep();
        return true;
    }

    public boolean mark(int p, int m) {
        if (!isParagraph(p) || !isWithin(m, -1, MARKS - 1)) {
            return false;
        }
        doc[recordAt(p) + MARK] = m;
        keepStep();
        return true;
    }

    public int add(int p, int width, int note) {
        boolean isReference = isWithin(width, -MARKS, -1);
        if (!isParagraph(p) || !isReference && !isWithin(width, 1, 30) || !isWithin(note, 0, 3)) {
            return BAD;
        }
        int words = wordsOf(p);
        if (words == MAX_WORDS) {
            return FULL;
        }
        int at = wordAt(p, words);
        doc[at + WIDTH] = width;
        doc[at + NOTE] = note;
        doc[at + STATE] = tracking ? NEW : PLAIN;
        doc[recordAt(p) + WORDS] = words + 1;
        keepStep();
        return words + 1;
    }

    public int drop(int p) {
        if (!isParagraph(p)) {
            return BAD;
        }
        int w = lastNotGone(p);
        if (w < 0) {
            return BAD;
        }
        int at = wordAt(p, w);
        if (tracking && doc[at + STATE] == PLAIN) {
            doc[at + STATE] = GONE;
        } else {
            takeOut(p, w);
        }
        keepStep();
        return wordsOf(p);
    }

    public boolean style(int style, int what, int v) {
        if (!isWithin(style, 0, STYLES - 1) || !isWithin(what, 0, TRAITS - 1)) {
            return false;
        }
        int least = leastOf(what);
        int greatest = greatestOf(what);
        if (!isWithin(v, least, greatest)) {
            return false;
        }
        doc[STYLE_CELLS + style * TRAITS + what] = v;
        keepStep();
        return true;
    }

    public boolean page(int width, int height, int columns) {
        if (!isWithin(width, 20, 80) || !isWithin(height, 10, 60) || !isWithin(columns, 1, 2)) {
            return false;
        }
        doc[PAGE_WIDTH] = width;
        doc[PAGE_HEIGHT] = height;
        doc[PAGE_COLUMNS] = columns;
        keepStep();
        return true;
    }

    public boolean track(boolean on, int view) {
        if (!isWithin(view, 0, 2)) {
            return false;
        }
        tracking = on;
        this.view = view;
        stale = true;
        return true;
    }

    public int resolve(int p, boolean accept) {
        if (!isParagraph(p)) {
            return BAD;
        }
        int changed = changedWords(p);
        if (changed == 0) {
            return 0;
        }
        int unwanted = accept ? GONE : NEW;
        // From the end, as taking a word out moves those behind it.
        for (int w = wordsOf(p) - 1; w >= 0; w--) {
            int at = wordAt(p, w) + STATE;
            if (doc[at] == unwanted) {
                takeOut(p, w);
            } else {
                doc[at] = PLAIN;
            }
        }
        keepStep();
        return changed;
    }

    public boolean step(boolean back) {
        if (back ? stepsBack == 0 : stepsAgain == 0) {
            return false;
        }
        int move = back ? -1 : 1;
        stepsBack += move;
        stepsAgain -= move;
        slotNow = (slotNow + move + SLOTS) % SLOTS;
        loadState();
        stale = true;
        return true;
    }

    public int paragraph(int p, int what) {
        if (!isParagraph(p)) {
            return BAD - 1;
        }
        layOutIfStale();
        switch (what) {
            case 0: return lineCount[p];
            case 1: return labelValue[p];
            case 2: return doc[recordAt(p) + STYLE];
            case 3: return doc[recordAt(p) + MARK];
            case 4: return wordsOf(p);
            case 5: return changedWords(p);
            default: return BAD - 1;
        }
    }

    public int line(int p, int k, int what) {
        if (!isParagraph(p)) {
            return BAD;
        }
        layOutIfStale();
        if (!isWithin(k, 0, lineCount[p] - 1)) {
            return BAD;
        }
        int at = p * MAX_WORDS + k;
        switch (what) {
            case 0: return lineFirst[at];
            case 1: return lineWords[at];
            case 2: return lineColumn[at];
            case 3: return lineTop[at];
            case 4: return lineLeft[at];
            case 5: return lineSlack[at];
            default: return BAD;
        }
    }

    public int word(int p, int w) {
        if (!isParagraph(p) || w < 0 || w >= wordsOf(p)) {
            return BAD;
        }
        if (!isShown(p, w)) {
            return HIDDEN;
        }
        layOutIfStale();
        int at = p * MAX_WORDS + w;
        int k = wordLine[at];
        boolean isSecond = doc[PAGE_COLUMNS] == 2 && lineColumn[p * MAX_WORDS + k] % 2 == 1;
        int columnLeft = isSecond ? columnWidth() + COLUMN_GAP : 0;
        return 100 * k + columnLeft + wordLeft[at];
    }

    public int column(int c, int what) {
        layOutIfStale();
        if (!isWithin(c, 0, columnCount - 1)) {
            return BAD;
        }
        switch (what) {
            case 0: return columnParagraph[c];
            case 1: return columnFirst[c];
            case 2: return columnLines[c];
            case 3: return columnNotes[c];
            case 4: return columnFilled[c];
            default: return BAD;
        }
    }

    public int total(int what) {
        layOutIfStale();
        switch (what) {
            case 0: return columnCount;
            case 1: return rounds;
            case 2: return doc[COUNT];
            case 3: return stepsBack;
            case 4: return stepsAgain;
            default: return BAD;
        }
    }

    private static boolean isWithin(int v, int least, int greatest) {
        return v >= least && v <= greatest;
    }

    private static int leastOf(int what) {
        return what == FIRST ? -5 : what == HEIGHT ? 1 : 0;
    }

    private static int greatestOf(int what) {
        switch (what) {
            case LEFT:
            case RIGHT:
            case FIRST: return 10;
            case BEFORE:
            case AFTER: return 9;
            case HEIGHT: return 4;
            case ALIGN:
            case LEVEL: return 3;
            default: return 1;
        }
    }

    private boolean isParagraph(int p) {
        return p >= 0 && p < doc[COUNT];
    }

    private int recordAt(int p) {
        return RECORDS + p * RECORD_SIZE;
    }

    private int wordAt(int p, int w) {
        return RECORDS + p * RECORD_SIZE + WORD_CELLS + w * WORD_SIZE;
    }

    private int wordsOf(int p) {
        return doc[RECORDS + p * RECORD_SIZE + WORDS];
    }

    private int traitOf(int p, int what) {
        int style = doc[RECORDS + p * RECORD_SIZE + STYLE];
        return doc[STYLE_CELLS + style * TRAITS + what];
    }

    private int columnWidth() {
        int width = doc[PAGE_WIDTH];
        return doc[PAGE_COLUMNS] == 1 ? width : (width - COLUMN_GAP) / 2;
    }

    private void copyRecord(int from, int to) {
        int source = recordAt(from);
        int target = recordAt(to);
        for (int i = 0; i < RECORD_SIZE; i++) {
            doc[target + i] = doc[source + i];
        }
    }

    private int lastNotGone(int p) {
        for (int w = wordsOf(p) - 1; w >= 0; w--) {
            if (doc[wordAt(p, w) + STATE] != GONE) {
                return w;
            }
        }
        return -1;
    }

    private void takeOut(int p, int w) {
        int words = wordsOf(p);
        int end = wordAt(p, words - 1);
        for (int i = wordAt(p, w); i < end; i++) {
            doc[i] = doc[i + WORD_SIZE];
        }
        doc[recordAt(p) + WORDS] = words - 1;
    }

    private int changedWords(int p) {
        int changed = 0;
        for (int w = 0; w < wordsOf(p); w++) {
            if (doc[wordAt(p, w) + STATE] != PLAIN) {
                changed++;
            }
        }
        return changed;
    }

    private boolean isShown(int p, int w) {
        int state = doc[wordAt(p, w) + STATE];
        return view == 0 || (view == 1 ? state != GONE : state != NEW);
    }

    private void keepStep() {
        slotNow = (slotNow + 1) % SLOTS;
        saveState();
        if (stepsBack < MAX_STEPS) {
            stepsBack++;
        }
        stepsAgain = 0;
        stale = true;
    }

    private void saveState() {
        int slot = slotNow * DOC_SIZE;
        for (int i = 0; i < DOC_SIZE; i++) {
            kept[slot + i] = doc[i];
        }
    }

    private void loadState() {
        int slot = slotNow * DOC_SIZE;
        for (int i = 0; i < DOC_SIZE; i++) {
            doc[i] = kept[slot + i];
        }
    }

    private void layOutIfStale() {
        if (!stale) {
            return;
        }
        stale = false;
        numberParagraphs();
        for (int m = 0; m < MARKS; m++) {
            referenceWidth[m] = 1;
        }
        boolean settled = false;
        for (int round = 1; round <= MAX_ROUNDS && !settled; round++) {
            rounds = round;
            for (int p = 0; p < doc[COUNT]; p++) {
                breakParagraph(p);
            }
            measureParagraphs();
            fillColumns();
            settled = !referencesChange();
        }
    }

    private void numberParagraphs() {
        int first = 0;
        int second = 0;
        int third = 0;
        for (int p = 0; p < doc[COUNT]; p++) {
            int level = traitOf(p, LEVEL);
            labelValue[p] = 0;
            labelWidth[p] = 0;
            if (level == 0) {
                continue;
            }
            first += level == 1 ? 1 : 0;
            second = level == 1 ? 0 : level == 2 ? second + 1 : second;
            third = level == 3 ? third + 1 : 0;
            labelValue[p] = first * 10000 + second * 100 + third;
            int width = digits(first) + 1;
            width += level < 2 ? 0 : digits(second) + 1;
            width += level < 3 ? 0 : digits(third) + 1;
            labelWidth[p] = width;
        }
    }

    /** Neither counters (at most 24) nor pages (at most 384) have more than three digits. */
    private static int digits(int n) {
        return n < 10 ? 1 : n < 100 ? 2 : 3;
    }

    private void breakParagraph(int p) {
        int next = 0;
        int lines = 0;
        for (int k = 0; k < MAX_WORDS; k++) {
            next = takeLine(p, k, next);
            lines = k + 1;
            if (next >= wordsOf(p)) {
                break;
            }
        }
        lineCount[p] = lines;
        for (int k = 0; k < lines; k++) {
            placeWords(p, k);
        }
    }

    /** Answers the first shown word that has no room in the line, or how many words there are. */
    private int takeLine(int p, int k, int from) {
        int words = wordsOf(p);
        int left = traitOf(p, LEFT);
        if (k == 0) {
            left += traitOf(p, FIRST) + labelWidth[p];
        }
        int room = columnWidth() - traitOf(p, RIGHT) - left;
        room = room < 1 ? 1 : room;
        int first = words;
        int taken = 0;
        int used = 0;
        int notes = 0;
        int w = from;
        for (; w < words; w++) {
            if (!isShown(p, w)) {
                continue;
            }
            int more = taken == 0 ? widthOf(p, w) : 1 + widthOf(p, w);
            if (taken > 0 && used + more > room) {
                break;
            }
            first = taken == 0 ? w : first;
            taken++;
            used += more;
            notes += doc[wordAt(p, w) + NOTE];
        }
        int at = p * MAX_WORDS + k;
        lineFirst[at] = first;
        lineWords[at] = taken;
        lineLeft[at] = left;
        lineSlack[at] = used > room ? 0 : room - used;
        lineNotes[at] = notes;
        return w;
    }

    private int widthOf(int p, int w) {
        int width = doc[wordAt(p, w) + WIDTH];
        return width < 0 ? referenceWidth[-1 - width] : width;
    }

    private void placeWords(int p, int k) {
        int at = p * MAX_WORDS + k;
        int align = traitOf(p, ALIGN);
        int slack = lineSlack[at];
        if (align == ALIGN_RIGHT) {
            lineLeft[at] += slack;
        } else if (align == ALIGN_MIDDLE) {
            lineLeft[at] += slack / 2;
        }
        int gaps = lineWords[at] - 1;
        boolean stretched = align == ALIGN_BOTH && gaps > 0 && k < lineCount[p] - 1;
        int left = lineLeft[at];
        int placed = 0;
        for (int w = lineFirst[at]; w < wordsOf(p) && placed <= gaps; w++) {
            if (!isShown(p, w)) {
                continue;
            }
            wordLine[p * MAX_WORDS + w] = k;
            wordLeft[p * MAX_WORDS + w] = left;
            left += widthOf(p, w) + 1;
            if (stretched) {
                left += slack / gaps + (placed < slack % gaps ? 1 : 0);
            }
            placed++;
        }
    }

    private void measureParagraphs() {
        int last = doc[COUNT] - 1;
        // From the end, as what goes with a paragraph is built on what goes with the next one.
        for (int p = last; p >= 0; p--) {
            gapBefore[p] = p == 0 ? 0 : gapBehind(p - 1);
            int head = headLines(p);
            headNeeds[p] = needsOfLines(p, head);
            groupNeeds[p] = headNeeds[p];
            if (p < last && traitOf(p, NEXT) == 1) {
                groupNeeds[p] = needsOfLines(p, lineCount[p]) + gapBefore[p + 1] + groupNeeds[p + 1];
            }
        }
    }

    private int gapBehind(int p) {
        int after = traitOf(p, AFTER);
        int before = traitOf(p + 1, BEFORE);
        return after > before ? after : before;
    }

    private boolean isStiff(int p) {
        return traitOf(p, WHOLE) == 1 || traitOf(p, PAIRS) == 1 && lineCount[p] < 4;
    }

    private int headLines(int p) {
        if (isStiff(p)) {
            return lineCount[p];
        }
        return traitOf(p, PAIRS) == 1 ? 2 : 1;
    }

    private int needsOfLines(int p, int lines) {
        int needs = lines * traitOf(p, HEIGHT);
        for (int k = 0; k < lines; k++) {
            needs += lineNotes[p * MAX_WORDS + k];
        }
        return needs;
    }

    private void fillColumns() {
        columnCount = 0;
        for (int p = 0; p < doc[COUNT]; p++) {
            for (int k = 0; k < lineCount[p]; k++) {
                boolean isNew = k == 0 ? opensColumn(p) : turnsColumn(p, k);
                if (isNew) {
                    startColumn(p, k);
                }
                putLine(p, k);
            }
        }
    }

    private int freeHeight() {
        int c = columnCount - 1;
        return doc[PAGE_HEIGHT] - columnFilled[c] - columnNotes[c];
    }

    /** Behind another paragraph the column is never empty, as each one has a line. */
    private boolean opensColumn(int p) {
        if (p == 0 || traitOf(p, BREAK) == 1) {
            return true;
        }
        int free = freeHeight() - gapBefore[p];
        boolean groupFitsAlone = groupNeeds[p] <= doc[PAGE_HEIGHT];
        return (groupFitsAlone ? groupNeeds[p] : headNeeds[p]) > free;
    }

    private boolean turnsColumn(int p, int k) {
        int at = p * MAX_WORDS + k;
        int height = traitOf(p, HEIGHT);
        int free = freeHeight() - height - lineNotes[at];
        if (free < 0) {
            return true;
        }
        if (k != lineCount[p] - 2 || traitOf(p, PAIRS) == 0 || isStiff(p)) {
            return false;
        }
        return height + lineNotes[at + 1] > free;
    }

    private void startColumn(int p, int k) {
        int c = columnCount;
        columnParagraph[c] = p;
        columnFirst[c] = k;
        columnLines[c] = 0;
        columnNotes[c] = 0;
        columnFilled[c] = 0;
        columnCount = c + 1;
    }

    private void putLine(int p, int k) {
        int at = p * MAX_WORDS + k;
        int c = columnCount - 1;
        int gap = k == 0 && columnLines[c] > 0 ? gapBefore[p] : 0;
        lineColumn[at] = c;
        lineTop[at] = columnFilled[c] + gap;
        columnFilled[c] = lineTop[at] + traitOf(p, HEIGHT);
        columnNotes[c] += lineNotes[at];
        columnLines[c]++;
    }

    /**
     * Gets the references ready for another round, and tells if one of them would be of another
     * width there. Words are placed already, so that after the last round this changes nothing.
     */
    private boolean referencesChange() {
        boolean changes = false;
        for (int m = 0; m < MARKS; m++) {
            int width = pageDigits(m);
            if (width != referenceWidth[m] && isReferredTo(m)) {
                changes = true;
            }
            referenceWidth[m] = width;
        }
        return changes;
    }

    private int pageDigits(int m) {
        for (int p = 0; p < doc[COUNT]; p++) {
            if (doc[recordAt(p) + MARK] == m) {
                int c = lineColumn[p * MAX_WORDS];
                int pagesBefore = doc[PAGE_COLUMNS] == 2 ? c / 2 : c;
                return digits(pagesBefore + 1);
            }
        }
        return 1;
    }

    /** Words that are not shown count too: the document speaks of all references. */
    private boolean isReferredTo(int m) {
        for (int p = 0; p < doc[COUNT]; p++) {
            for (int w = 0; w < wordsOf(p); w++) {
                if (doc[wordAt(p, w) + WIDTH] == -1 - m) {
                    return true;
                }
            }
        }
        return false;
    }
}
