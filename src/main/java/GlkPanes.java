import java.util.Arrays;

/** Panes of a story's screen. Words in capitals are the terms of the document, which says what each call promises. */
public final class GlkPanes {
    public static final int BAD = -1, NONE = -2, NOT = -3, FULL = -4;

    private static final int LEAST_COLUMNS = 4, MOST_COLUMNS = 60;
    private static final int LEAST_ROWS = 2, MOST_ROWS = 24;
    private static final int MOST_PANES = 60, MOST_LEAVES = 12;
    private static final int MOST_SIGNS = 400, MOST_LIMIT = 40;
    private static final int MOST_EVENTS = 20, EVENT_FACTS = 44, FIRST_SIGN_FACT = 4;
    private static final int MOST_STYLE = 10, MOST_NUMBER = 999, MOST_CURSOR = 99;

    private static final int BLANK = 0, TEXT = 1, GRID = 2, PICTURE = 3, PAIR = 4;
    private static final int OTHER_SIDE = 1, ALONG_ROWS = 2, BY_SHARE = 4, NO_BORDER = 8, MOST_METHOD = 15;
    private static final int MOST_FIXED = 999, WHOLE_SHARE = 100;
    private static final int KEY = 0, LINE = 1, LINK = 2, CLICK = 3, ASK_KINDS = 4;
    private static final int KEY_EVENT = 0, LINE_EVENT = 1, LINK_EVENT = 2, CLICK_EVENT = 3, SIZE_EVENT = 4;

    private static final int BACK = 8, END = 10, SPACE = 32, LAST_SIGN = 126;
    private static final int COLUMN_BORDER = 124, ROW_BORDER = 45, PICTURE_SIGN = 35;
    private static final int LINE_STYLE = 8;

    /** A cell holds a sign, its STYLE and its LINK in one number, so that a screen needs one row of numbers. */
    private static final int STYLE_SHIFT = 7, LINK_SHIFT = 11, SIGN_MASK = 127, STYLE_MASK = 15;
    private static final int EMPTY = SPACE;

    private final Tree tree;
    private final Events events = new Events();

    public GlkPanes(int w, int h) {
        tree = new Tree(w, h);
    }

    // ---- panes

    public int open(int split, int method, int size, int kind) {
        if (kind < BLANK || kind > PICTURE) {
            return BAD;
        }
        if (split == 0) {
            return openTop(kind);
        }
        Pane old = tree.find(split);
        if (old == null || !isMeasure(method, size)) {
            return BAD;
        }
        if (kind == BLANK && isFixed(method)) {
            return NOT;
        }
        if (!tree.hasRoomFor(2)) {
            return FULL;
        }
        return tree.split(old, method, size, kind);
    }

    private int openTop(int kind) {
        if (tree.top != null) {
            return NOT;
        }
        return tree.hasRoomFor(1) ? tree.addTop(kind) : FULL;
    }

    public int close(int pane) {
        Pane p = tree.find(pane);
        if (p == null) {
            return BAD;
        }
        tree.remove(p);
        return p.written;
    }

    public int arrange(int pair, int method, int size, int key) {
        if (!(tree.find(pair) instanceof Pair p) || !isMeasure(method, size)) {
            return BAD;
        }
        Pane newKey = p.key;
        if (key != 0) {
            newKey = tree.find(key);
            if (newKey == null || newKey.kind == PAIR || !isBelow(newKey, p)) {
                return BAD;
            }
        }
        if (isAlongRows(method) != isAlongRows(p.method)) {
            return NOT;
        }
        if (isFixed(method) && newKey != null && newKey.kind == BLANK) {
            return NOT;
        }
        p.rearrange(method, size, newKey);
        tree.layOut();
        return 1;
    }

    public int pane(int pane, int what) {
        Pane p = tree.find(pane);
        if (p == null) {
            return BAD;
        }
        switch (what) {
            case 0: return p.kind;
            case 1: return p.columns;
            case 2: return p.rows;
            case 3: return p.x;
            case 4: return p.y;
            case 5: return numberOf(p.parent, 0);
            case 6: return p.style;
            case 7: return p.link;
            case 8: return p.written;
            case 9: return p.echoes ? 1 : 0;
            default: return BAD;
        }
    }

    public int pair(int pane, int what) {
        if (!(tree.find(pane) instanceof Pair p)) {
            return BAD;
        }
        switch (what) {
            case 0: return p.method;
            case 1: return p.size;
            case 2: return numberOf(p.key, NONE);
            case 3: return numberOf(p.first, NONE);
            case 4: return numberOf(p.second, NONE);
            default: return BAD;
        }
    }

    public int root() {
        return numberOf(tree.top, NONE);
    }

    public int resize(int w, int h) {
        tree.setScreen(w, h);
        events.add(SIZE_EVENT, 0, tree.width, tree.height);
        return tree.layOut();
    }

    // ---- signs

    public int sign(int pane, int c) {
        Pane p = tree.find(pane);
        if (p == null || (c != END && !isPlainSign(c))) {
            return BAD;
        }
        if (!(p instanceof Writing w) || w.asked[LINE]) {
            return NOT;
        }
        w.put(cell(c, w.style, w.link));
        w.written++;
        return 1;
    }

    public int style(int pane, int s) {
        Pane p = tree.find(pane);
        if (p == null || s < 0 || s > MOST_STYLE) {
            return BAD;
        }
        if (p.kind == PAIR) {
            return NOT;
        }
        int was = p.style;
        p.style = s;
        return was;
    }

    public int link(int pane, int v) {
        Pane p = tree.find(pane);
        if (p == null || v < 0 || v > MOST_NUMBER) {
            return BAD;
        }
        if (p.kind == PAIR) {
            return NOT;
        }
        int was = p.link;
        p.link = v;
        return was;
    }

    public int cursor(int pane, int x, int y) {
        Pane p = tree.find(pane);
        if (p == null || x < 0 || x > MOST_CURSOR || y < 0 || y > MOST_CURSOR) {
            return BAD;
        }
        if (!(p instanceof Grid g) || g.asked[LINE]) {
            return NOT;
        }
        g.cursorX = x;
        g.cursorY = y;
        return g.has(x, y) ? 1 : 0;
    }

    public int at(int pane, int axis) {
        Pane p = tree.find(pane);
        if (p == null || axis < 0 || axis > 1) {
            return BAD;
        }
        if (!(p instanceof Grid g)) {
            return NOT;
        }
        return axis == 0 ? g.cursorX : g.cursorY;
    }

    public int wipe(int pane) {
        Pane p = tree.find(pane);
        if (p == null) {
            return BAD;
        }
        if (!(p instanceof Writing w) || w.asked[LINE]) {
            return NOT;
        }
        w.clear();
        return 1;
    }

    public int picture(int pane, int number) {
        Pane p = tree.find(pane);
        if (p == null || number < 0 || number > MOST_NUMBER) {
            return BAD;
        }
        if (!(p instanceof Picture q)) {
            return NOT;
        }
        int had = q.shownNumber;
        q.shownNumber = number;
        return had;
    }

    public int shown(int pane, int x, int y, int what) {
        Pane p = tree.find(pane);
        if (p == null || !p.has(x, y) || what < 0 || what > 2) {
            return BAD;
        }
        if (!(p instanceof Writing w)) {
            return NOT;
        }
        int there = w.cellAt(x, y);
        switch (what) {
            case 0: return signOf(there);
            case 1: return styleOf(there);
            default: return linkOf(there);
        }
    }

    public int lines(int pane) {
        Pane p = tree.find(pane);
        if (p == null) {
            return BAD;
        }
        return p instanceof Text t ? t.countLines() : NOT;
    }

    public int drawn(int x, int y) {
        if (!tree.hasPlace(x, y)) {
            return BAD;
        }
        Pane p = tree.paneAt(x, y);
        return p == null ? SPACE : signOf(p.cellAt(x - p.x, y - p.y));
    }

    public int under(int x, int y) {
        if (!tree.hasPlace(x, y)) {
            return BAD;
        }
        Pane p = tree.paneAt(x, y);
        return p == null || p.kind == PAIR ? NONE : p.number;
    }

    // ---- asks and events

    public int ask(int pane, int kind, int limit) {
        Pane p = tree.find(pane);
        if (p == null || !isAsk(kind)) {
            return BAD;
        }
        if (kind == LINE && (limit < 1 || limit > MOST_LIMIT)) {
            return BAD;
        }
        if (!(p instanceof Writing w) || !w.canBeAsked(kind)) {
            return NOT;
        }
        w.asked[kind] = true;
        if (kind == LINE) {
            w.line.begin(limit);
        }
        return 1;
    }

    public int cancel(int pane, int kind) {
        Pane p = tree.find(pane);
        if (p == null || !isAsk(kind)) {
            return BAD;
        }
        if (!(p instanceof Writing w) || !w.asked[kind]) {
            return NONE;
        }
        int signs = w.line.length;
        w.asked[kind] = false;
        if (kind != LINE) {
            return 1;
        }
        w.finishLine();
        return signs;
    }

    public int echo(int pane, boolean is) {
        Pane p = tree.find(pane);
        if (p == null) {
            return BAD;
        }
        if (!(p instanceof Writing w)) {
            return NOT;
        }
        int did = w.echoes ? 1 : 0;
        w.echoes = is;
        return did;
    }

    public int type(int pane, int c) {
        Pane p = tree.find(pane);
        if (p == null || (c != BACK && c != END && !isPlainSign(c))) {
            return BAD;
        }
        if (!(p instanceof Writing w)) {
            return 0;
        }
        if (w.asked[KEY]) {
            w.asked[KEY] = false;
            events.add(KEY_EVENT, w.number, c, 0);
            return 1;
        }
        return w.asked[LINE] ? typeInLine(w, c) : 0;
    }

    private int typeInLine(Writing w, int c) {
        if (c == END) {
            w.asked[LINE] = false;
            events.addLine(w.number, w.line);
            w.finishLine();
            return 1;
        }
        if (c == BACK) {
            w.line.removeLast();
        } else {
            w.line.append(c);
        }
        return 0;
    }

    public int click(int x, int y) {
        if (!tree.hasPlace(x, y)) {
            return BAD;
        }
        if (!(tree.paneAt(x, y) instanceof Writing w)) {
            return 0;
        }
        int column = x - w.x;
        int row = y - w.y;
        if (w.asked[CLICK]) {
            w.asked[CLICK] = false;
            events.add(CLICK_EVENT, w.number, column, row);
            return 1;
        }
        int touched = w.asked[LINK] ? linkOf(w.cellAt(column, row)) : 0;
        if (touched == 0) {
            return 0;
        }
        w.asked[LINK] = false;
        events.add(LINK_EVENT, w.number, touched, 0);
        return 1;
    }

    public int take() {
        return events.tellOldest();
    }

    public int event(int what) {
        return events.told(what);
    }

    public int count(int what) {
        switch (what) {
            case 0: return tree.width;
            case 1: return tree.height;
            case 2: return tree.countOpen(true);
            case 3: return tree.countOpen(false);
            case 4: return tree.made;
            case 5: return events.waiting;
            default: return BAD;
        }
    }

    private static boolean isMeasure(int method, int size) {
        if (method < 0 || method > MOST_METHOD) {
            return false;
        }
        return size >= 0 && size <= (isFixed(method) ? MOST_FIXED : WHOLE_SHARE);
    }

    private static boolean isFixed(int method) {
        return (method & BY_SHARE) == 0;
    }

    private static boolean isAlongRows(int method) {
        return (method & ALONG_ROWS) != 0;
    }

    private static boolean isAsk(int kind) {
        return kind >= 0 && kind < ASK_KINDS;
    }

    private static boolean isPlainSign(int c) {
        return c >= SPACE && c <= LAST_SIGN;
    }

    private static int numberOf(Pane p, int without) {
        return p == null ? without : p.number;
    }

    private static boolean isBelow(Pane p, Pane above) {
        Pane at = p;
        for (int i = 0; i < MOST_PANES && at != null; i++) {
            at = at.parent;
            if (at == above) {
                return true;
            }
        }
        return false;
    }

    private static int cell(int sign, int style, int link) {
        return link << LINK_SHIFT | style << STYLE_SHIFT | sign;
    }

    private static int signOf(int cell) {
        return cell & SIGN_MASK;
    }

    private static int styleOf(int cell) {
        return cell >> STYLE_SHIFT & STYLE_MASK;
    }

    private static int linkOf(int cell) {
        return cell >> LINK_SHIFT;
    }

    /** What all panes have; one that is of this class alone is BLANK. */
    private static class Pane {
        final int number;
        final int kind;
        Pair parent;
        int x;
        int y;
        int columns;
        int rows;
        int style;
        int link;
        int written;
        boolean echoes = true;

        Pane(int number, int kind) {
            this.number = number;
            this.kind = kind;
        }

        boolean has(int column, int row) {
            return column >= 0 && column < columns && row >= 0 && row < rows;
        }

        /** Answers whether the pane has another size or place now. */
        boolean moveTo(int newX, int newY, int newColumns, int newRows) {
            int oldColumns = columns;
            int oldRows = rows;
            boolean moved = newX != x || newY != y;
            x = newX;
            y = newY;
            columns = newColumns;
            rows = newRows;
            if (newColumns == oldColumns && newRows == oldRows) {
                return moved;
            }
            loseOutside(oldColumns, oldRows);
            return true;
        }

        void loseOutside(int oldColumns, int oldRows) {
        }

        /** How many columns or rows this pane wants as the KEY of a FIXED size. */
        int wanted(int size, boolean alongRows) {
            return 0;
        }

        int cellAt(int column, int row) {
            return EMPTY;
        }
    }

    private static final class Picture extends Pane {
        int shownNumber;

        Picture(int number) {
            super(number, PICTURE);
        }

        @Override
        int wanted(int size, boolean alongRows) {
            return alongRows ? (size + 15) / 16 : (size + 7) / 8;
        }

        @Override
        int cellAt(int column, int row) {
            return shownNumber == 0 ? EMPTY : PICTURE_SIGN;
        }
    }

    private static final class Pair extends Pane {
        int method;
        int size;
        Pane key;
        Pane first;
        Pane second;

        Pair(int number, int method, int size, Pane key) {
            super(number, PAIR);
            this.method = method;
            this.size = size;
            this.key = key;
        }

        void join(Pane measured, Pane other) {
            first = measuresFirst() ? measured : other;
            second = measuresFirst() ? other : measured;
        }

        void rearrange(int newMethod, int newSize, Pane newKey) {
            if (((method ^ newMethod) & OTHER_SIDE) != 0) {
                Pane left = first;
                first = second;
                second = left;
            }
            method = newMethod;
            size = newSize;
            key = newKey;
        }

        boolean measuresFirst() {
            return (method & OTHER_SIDE) == 0;
        }

        int borderIn(int room) {
            return room > 0 && (method & NO_BORDER) == 0 ? 1 : 0;
        }

        int measureIn(int room) {
            if (!isFixed(method)) {
                return room * size / WHOLE_SHARE;
            }
            return key == null ? 0 : key.wanted(size, isAlongRows(method));
        }

        @Override
        int cellAt(int column, int row) {
            return isAlongRows(method) ? ROW_BORDER : COLUMN_BORDER;
        }
    }

    /** What TEXT and GRID have in common: signs come to them, and they can be asked. */
    private abstract static class Writing extends Pane {
        final boolean[] asked = new boolean[ASK_KINDS];
        final Line line = new Line();

        Writing(int number, int kind) {
            super(number, kind);
        }

        abstract void put(int cell);

        abstract void putLine();

        abstract void clear();

        boolean canBeAsked(int kind) {
            if (asked[kind] || (kind == CLICK && this.kind != GRID)) {
                return false;
            }
            boolean typing = asked[KEY] || asked[LINE];
            return !typing || (kind != KEY && kind != LINE);
        }

        /** The LINE is emptied here, since signs of one that is not asked for must not be shown. */
        void finishLine() {
            if (echoes) {
                putLine();
                written += line.length + 1;
            }
            line.begin(0);
        }

        @Override
        int wanted(int size, boolean alongRows) {
            return size;
        }
    }

    private static final class Grid extends Writing {
        /** Rows as long as the widest screen's, so that another size needs no new array; cells outside are EMPTY. */
        private final int[] cells = new int[MOST_COLUMNS * MOST_ROWS];
        int cursorX;
        int cursorY;

        Grid(int number) {
            super(number, GRID);
            Arrays.fill(cells, EMPTY);
        }

        @Override
        void put(int cell) {
            if (signOf(cell) == END) {
                goToNextRow();
                return;
            }
            if (cursorX >= columns) {
                goToNextRow();
            }
            write(cursorX, cursorY, cell);
            cursorX++;
        }

        private void goToNextRow() {
            cursorX = 0;
            cursorY++;
        }

        private void write(int column, int row, int cell) {
            int i = indexOf(column, row);
            if (i >= 0) {
                cells[i] = cell;
            }
        }

        private int indexOf(int column, int row) {
            int i = row * MOST_COLUMNS + column;
            return has(column, row) && i < cells.length ? i : -1;
        }

        @Override
        void putLine() {
            for (int i = 0; i < line.length; i++) {
                write(cursorX + i, cursorY, line.cellOf(i));
            }
            goToNextRow();
        }

        @Override
        void clear() {
            Arrays.fill(cells, EMPTY);
            cursorX = 0;
            cursorY = 0;
        }

        @Override
        void loseOutside(int oldColumns, int oldRows) {
            for (int row = 0; row < oldRows && row < MOST_ROWS; row++) {
                int begin = row * MOST_COLUMNS + (row < rows ? columns : 0);
                int end = row * MOST_COLUMNS + oldColumns;
                if (begin >= 0 && begin < end && end <= cells.length) {
                    Arrays.fill(cells, begin, end, EMPTY);
                }
            }
        }

        @Override
        int cellAt(int column, int row) {
            int typed = column - cursorX;
            if (row == cursorY && typed >= 0 && typed < line.length) {
                return line.cellOf(typed);
            }
            int i = indexOf(column, row);
            return i >= 0 ? cells[i] : EMPTY;
        }
    }

    private static final class Text extends Writing {
        private final int[] cells = new int[MOST_SIGNS];
        private int kept;
        private final Wrap wrap = new Wrap();

        Text(int number) {
            super(number, TEXT);
        }

        @Override
        void put(int cell) {
            if (kept >= cells.length) {
                dropOldest();
            }
            if (kept < cells.length) {
                cells[kept] = cell;
                kept++;
            }
        }

        private void dropOldest() {
            int gone = 1;
            for (int i = 0; i < kept; i++) {
                if (signOf(cells[i]) == END) {
                    gone = i + 1;
                    break;
                }
            }
            kept = Math.max(0, kept - gone);
            for (int i = 0; i < kept; i++) {
                cells[i] = cells[i + gone];
            }
        }

        @Override
        void putLine() {
            for (int i = 0; i < line.length; i++) {
                put(line.cellOf(i));
            }
            put(cell(END, LINE_STYLE, 0));
        }

        @Override
        void clear() {
            kept = 0;
        }

        /** With the LINE that is asked for, which stands behind the signs that are kept. */
        int length() {
            return kept + line.length;
        }

        int cellOf(int i) {
            if (i >= 0 && i < kept) {
                return cells[i];
            }
            return line.cellOf(i - kept);
        }

        int countLines() {
            wrap.fold(this, columns);
            return wrap.lineCount;
        }

        @Override
        int cellAt(int column, int row) {
            wrap.fold(this, columns);
            int i = wrap.signIndex(Math.max(0, wrap.lineCount - rows) + row, column);
            return i >= 0 ? cellOf(i) : EMPTY;
        }
    }

    /** Where the LINES of a TEXT begin and end at a width. */
    private static final class Wrap {
        /** Each LINE but the last takes a sign or an END, so there is one more at most than there are signs. */
        private final int[] begins = new int[MOST_SIGNS + MOST_LIMIT + 1];
        private final int[] ends = new int[MOST_SIGNS + MOST_LIMIT + 1];
        int lineCount;

        void fold(Text text, int width) {
            lineCount = 0;
            int length = text.length();
            if (length == 0 || width <= 0) {
                return;
            }
            int begin = 0;
            for (int i = 0; i <= length; i++) {
                if (i == length || signOf(text.cellOf(i)) == END) {
                    foldParagraph(text, width, begin, i);
                    begin = i + 1;
                }
            }
        }

        private void foldParagraph(Text text, int width, int begin, int end) {
            if (begin == end) {
                addLine(begin, end);
            }
            int left = begin;
            for (int i = 0; i < begins.length && left < end; i++) {
                if (end - left <= width) {
                    addLine(left, end);
                    return;
                }
                int space = lastSpace(text, left, left + width);
                if (space < 0) {
                    addLine(left, left + width);
                    left += width;
                } else {
                    addLine(left, space);
                    left = afterSpaces(text, space, end);
                }
            }
        }

        private static int lastSpace(Text text, int from, int to) {
            for (int i = to; i >= from; i--) {
                if (signOf(text.cellOf(i)) == SPACE) {
                    return i;
                }
            }
            return -1;
        }

        private static int afterSpaces(Text text, int from, int end) {
            for (int i = from; i < end; i++) {
                if (signOf(text.cellOf(i)) != SPACE) {
                    return i;
                }
            }
            return end;
        }

        private void addLine(int begin, int end) {
            if (lineCount < begins.length && lineCount < ends.length) {
                begins[lineCount] = begin;
                ends[lineCount] = end;
                lineCount++;
            }
        }

        /** The number of the TEXT's sign at a column of a LINE, or -1 where none stands. */
        int signIndex(int lineNumber, int column) {
            if (lineNumber < 0 || lineNumber >= lineCount || lineNumber >= begins.length) {
                return -1;
            }
            int i = begins[lineNumber] + column;
            return i < ends[lineNumber] ? i : -1;
        }
    }

    /** The LINE that a player types; it has signs only as long as it is asked for. */
    private static final class Line {
        private final int[] cells = new int[MOST_LIMIT];
        private int limit;
        int length;

        void begin(int newLimit) {
            limit = newLimit;
            length = 0;
        }

        void append(int c) {
            if (length < limit && length < cells.length) {
                cells[length] = cell(c, LINE_STYLE, 0);
                length++;
            }
        }

        void removeLast() {
            if (length > 0) {
                length--;
            }
        }

        int cellOf(int i) {
            return i >= 0 && i < length && i < cells.length ? cells[i] : EMPTY;
        }
    }

    /** The EVENTS that wait, as rows of the facts that event() tells, used again and again in a ring. */
    private static final class Events {
        private final int[][] ring = new int[MOST_EVENTS][EVENT_FACTS];
        private final int[] taken = new int[EVENT_FACTS];
        private boolean hasTaken;
        private int oldest;
        int waiting;

        void add(int kind, int pane, int first, int second) {
            fillFacts(nextRow(), kind, pane, first, second);
        }

        void addLine(int pane, Line line) {
            int[] facts = nextRow();
            fillFacts(facts, LINE_EVENT, pane, line.length, 0);
            for (int i = 0; i < line.length && FIRST_SIGN_FACT + i < facts.length; i++) {
                facts[FIRST_SIGN_FACT + i] = signOf(line.cellOf(i));
            }
        }

        private int[] nextRow() {
            if (waiting >= MOST_EVENTS) {
                oldest = (oldest + 1) % MOST_EVENTS;
                waiting--;
            }
            int row = (oldest + waiting) % MOST_EVENTS;
            waiting++;
            return ring[row];
        }

        private static void fillFacts(int[] facts, int kind, int pane, int first, int second) {
            if (facts.length < FIRST_SIGN_FACT) {
                return;
            }
            Arrays.fill(facts, 0);
            facts[0] = kind;
            facts[1] = pane;
            facts[2] = first;
            facts[3] = second;
        }

        int tellOldest() {
            if (waiting <= 0) {
                return NONE;
            }
            System.arraycopy(ring[oldest], 0, taken, 0, EVENT_FACTS);
            hasTaken = true;
            oldest = (oldest + 1) % MOST_EVENTS;
            waiting--;
            return taken[0];
        }

        int told(int what) {
            if (what < 0 || what >= taken.length) {
                return BAD;
            }
            return hasTaken ? taken[what] : NONE;
        }
    }

    /** THE SCREEN and its panes; a number whose pane is closed, or not yet open, has null in its place. */
    private static final class Tree {
        private final Pane[] panes = new Pane[MOST_PANES + 1];
        int made;
        Pane top;
        int width;
        int height;

        Tree(int w, int h) {
            setScreen(w, h);
        }

        void setScreen(int w, int h) {
            width = Math.max(LEAST_COLUMNS, Math.min(w, MOST_COLUMNS));
            height = Math.max(LEAST_ROWS, Math.min(h, MOST_ROWS));
        }

        boolean hasPlace(int x, int y) {
            return x >= 0 && x < width && y >= 0 && y < height;
        }

        Pane find(int number) {
            return number >= 1 && number < panes.length ? panes[number] : null;
        }

        int countOpen(boolean withPairs) {
            int n = 0;
            for (Pane p : panes) {
                if (p != null && (withPairs || p.kind != PAIR)) {
                    n++;
                }
            }
            return n;
        }

        boolean hasRoomFor(int more) {
            return made + more <= MOST_PANES && countOpen(false) < MOST_LEAVES;
        }

        int addTop(int kind) {
            Pane fresh = newLeaf(made + 1, kind);
            enter(fresh);
            top = fresh;
            layOut();
            return fresh.number;
        }

        int split(Pane old, int method, int size, int kind) {
            Pane fresh = newLeaf(made + 1, kind);
            Pair pair = new Pair(made + 2, method, size, fresh);
            enter(fresh);
            enter(pair);
            replace(old, pair);
            pair.join(fresh, old);
            fresh.parent = pair;
            old.parent = pair;
            layOut();
            return fresh.number;
        }

        private static Pane newLeaf(int number, int kind) {
            switch (kind) {
                case TEXT: return new Text(number);
                case GRID: return new Grid(number);
                case PICTURE: return new Picture(number);
                default: return new Pane(number, BLANK);
            }
        }

        private void enter(Pane p) {
            if (p.number >= 1 && p.number < panes.length) {
                panes[p.number] = p;
                made = p.number;
            }
        }

        private void replace(Pane old, Pane by) {
            Pair up = old.parent;
            by.parent = up;
            if (up == null) {
                top = by;
            } else if (up.first == old) {
                up.first = by;
            } else {
                up.second = by;
            }
        }

        void remove(Pane p) {
            Pair up = p.parent;
            if (up == null) {
                top = null;
            } else {
                Pane other = up.first == p ? up.second : up.first;
                if (other != null) {
                    replace(up, other);
                }
                forget(up);
            }
            forgetWithAllBelow(p);
            forgetClosedKeys();
            layOut();
        }

        private void forget(Pane p) {
            if (p.number >= 1 && p.number < panes.length) {
                panes[p.number] = null;
            }
        }

        private void forgetWithAllBelow(Pane p) {
            for (int i = 1; i < panes.length; i++) {
                Pane q = panes[i];
                if (q != null && (q == p || isBelow(q, p))) {
                    panes[i] = null;
                }
            }
        }

        private void forgetClosedKeys() {
            for (int i = 1; i < panes.length; i++) {
                if (panes[i] instanceof Pair pair && pair.key != null && find(pair.key.number) == null) {
                    pair.key = null;
                }
            }
        }

        /** Answers how many panes have another size or place now. */
        int layOut() {
            return layOutFrom(top, 0, 0, width, height, 0);
        }

        private static int layOutFrom(Pane p, int x, int y, int columns, int rows, int depth) {
            if (p == null || depth > MOST_LEAVES) {
                return 0;
            }
            boolean hasRoom = columns > 0 && rows > 0;
            boolean changed = hasRoom ? p.moveTo(x, y, columns, rows) : p.moveTo(0, 0, 0, 0);
            int below = p instanceof Pair pair ? layOutSides(pair, depth + 1) : 0;
            return changed ? below + 1 : below;
        }

        private static int layOutSides(Pair p, int depth) {
            boolean alongRows = isAlongRows(p.method);
            int room = alongRows ? p.rows : p.columns;
            int border = p.borderIn(room);
            int measured = Math.min(p.measureIn(room), room - border);
            int ahead = p.measuresFirst() ? measured : room - border - measured;
            int skip = ahead + border;
            int behind = room - skip;
            if (alongRows) {
                return layOutFrom(p.first, p.x, p.y, p.columns, ahead, depth)
                    + layOutFrom(p.second, p.x, p.y + skip, p.columns, behind, depth);
            }
            return layOutFrom(p.first, p.x, p.y, ahead, p.rows, depth)
                + layOutFrom(p.second, p.x + skip, p.y, behind, p.rows, depth);
        }

        /** The pane that is no PAIR at a place; or the PAIR whose BORDER lies there; null without a ROOT. */
        Pane paneAt(int x, int y) {
            Pane at = top;
            for (int i = 0; i < MOST_PANES && at instanceof Pair pair; i++) {
                if (isIn(pair.first, x, y)) {
                    at = pair.first;
                } else if (isIn(pair.second, x, y)) {
                    at = pair.second;
                } else {
                    return pair;
                }
            }
            return at;
        }

        private static boolean isIn(Pane p, int x, int y) {
            return p != null && p.has(x - p.x, y - p.y);
        }
    }
}
