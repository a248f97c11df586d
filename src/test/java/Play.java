/** Short ways to do with a screen what takes many calls. */
final class Play {
    /** Numbers that no pane of allKinds() has. */
    static final int[] NO_PANES = {0, -1, 8, 60, 61, Integer.MAX_VALUE, Integer.MIN_VALUE};

    /** Numbers that no open pane of someClosed() has: no number at all, closed ones, ones to come, and none ever. */
    static final int[] NOT_OPEN = {0, -1, 8, 9, 10, 59, 60, 61, 1000000, Integer.MAX_VALUE, Integer.MIN_VALUE};

    /** Of allKinds() and someClosed(): the panes that are no PAIRS, the PAIRS, and those that no signs come to. */
    static final int[] LEAVES = {1, 2, 4, 6}, PAIRS = {3, 5, 7}, WITHOUT_SIGNS = {3, 4, 5, 6, 7};

    private static final Calls CALLS = new Calls(GlkPanes.class);

    private Play() {
    }

    /** A call is BAD of each number that no open pane has, and well of one that is open. */
    static void badOfNoOpenPane(String call, int well, int... others) {
        int[] a = new int[others.length + 1];
        System.arraycopy(others, 0, a, 1, others.length);
        a[0] = well;
        Due.isTrue(call + " of " + well + " is well", CALLS.answer(someClosed(), call, a) >= 0);
        for (int n : NOT_OPEN) {
            a[0] = n;
            Due.is(call + " of " + n, CALLS.answer(someClosed(), call, a), GlkPanes.BAD);
        }
        a[0] = 1;
        Due.is(call + " without a ROOT", CALLS.answer(new GlkPanes(20, 9), call, a), GlkPanes.BAD);
    }

    /** A call of a place is BAD at places that a screen of some columns and rows does not have, and at no others. */
    static void badOutside(String call, GlkPanes x, int columns, int rows) {
        int least = Integer.MIN_VALUE;
        int most = Integer.MAX_VALUE;
        int[][] outside = {{-1, 0}, {0, -1}, {columns, 0}, {0, rows}, {columns - 1, rows}, {columns, rows - 1},
            {least, 0}, {0, least}, {most, 0}, {0, most}, {most, most}};
        for (int[] place : outside) {
            Due.is(call + " at " + place[0] + ", " + place[1], CALLS.answer(x, call, place), GlkPanes.BAD);
        }
        int[][] inside = {{0, 0}, {columns - 1, 0}, {0, rows - 1}, {columns - 1, rows - 1}};
        for (int[] place : inside) {
            boolean well = CALLS.answer(x, call, place) != GlkPanes.BAD;
            Due.isTrue(call + " at " + place[0] + ", " + place[1] + " is well", well);
        }
    }

    /** A screen whose ROOT, 1, is of a KIND. */
    static GlkPanes root(int w, int h, int kind) {
        GlkPanes x = new GlkPanes(w, h);
        x.open(0, 0, 0, kind);
        return x;
    }

    /** A screen of a TEXT, 1, that is split into 2; 3 is their PAIR. */
    static GlkPanes split(int w, int h, int method, int size, int kind) {
        GlkPanes x = root(w, h, 1);
        x.open(1, method, size, kind);
        return x;
    }

    /** 1 TEXT, 2 GRID, 4 PICTURE, 6 BLANK; 3, 5 and 7 are PAIRS. */
    static GlkPanes allKinds() {
        GlkPanes x = new GlkPanes(41, 12);
        x.open(0, 0, 0, 1);
        x.open(1, 1, 20, 2);
        x.open(1, 3, 48, 3);
        x.open(2, 7, 50, 0);
        return x;
    }

    /** As allKinds(), and 8 with its PAIR 9 had been open. */
    static GlkPanes someClosed() {
        GlkPanes x = allKinds();
        x.open(1, 4, 50, 1);
        x.close(8);
        return x;
    }

    static void write(GlkPanes x, int pane, String signs) {
        for (int i = 0; i < signs.length(); i++) {
            Due.is("sign(" + pane + ", " + (int) signs.charAt(i) + ")", x.sign(pane, signs.charAt(i)), 1);
        }
    }

    static void type(GlkPanes x, int pane, String signs) {
        for (int i = 0; i < signs.length(); i++) {
            Due.is("type(" + pane + ", " + (int) signs.charAt(i) + ")", x.type(pane, signs.charAt(i)), 0);
        }
    }

    /** What is shown in a pane's row, without the 32s at its end. */
    static String row(GlkPanes x, int pane, int y) {
        StringBuilder b = new StringBuilder();
        int columns = x.pane(pane, 1);
        for (int i = 0; i < columns; i++) {
            b.append((char) x.shown(pane, i, y, 0));
        }
        return b.toString().stripTrailing();
    }

    static void rows(String what, GlkPanes x, int pane, String... want) {
        int rows = x.pane(pane, 2);
        Due.is(what + ": rows", rows, want.length);
        for (int y = 0; y < want.length && y < rows; y++) {
            String got = row(x, pane, y);
            Due.isTrue(what + ": row " + y + " is '" + want[y] + "', not '" + got + "'", got.equals(want[y]));
        }
    }

    /** A TEXT of some signs has these LINES at a width, and nothing else is shown in it. */
    static void wrapped(String text, int width, String... want) {
        GlkPanes x = root(60, 24, 0);
        x.open(1, 0, width, 1);
        write(x, 2, text);
        String what = "'" + text.replace('\n', '/') + "' at " + width;
        Due.is(what + ": columns", x.pane(2, 1), width);
        Due.is(what + ": LINES", x.lines(2), want.length);
        for (int y = 0; y < 24; y++) {
            String line = y < want.length ? want[y] : "";
            for (int i = 0; i < width; i++) {
                int due = i < line.length() ? line.charAt(i) : 32;
                Due.is(what + ": row " + y + " column " + i, x.shown(2, i, y, 0), due);
            }
        }
    }

    static void screen(String what, GlkPanes x, String... want) {
        int columns = x.count(0);
        int rows = x.count(1);
        Due.is(what + ": H", rows, want.length);
        for (int y = 0; y < want.length && y < rows; y++) {
            StringBuilder b = new StringBuilder();
            for (int i = 0; i < columns; i++) {
                b.append((char) x.drawn(i, y));
            }
            String got = b.toString();
            Due.isTrue(what + ": drawn row " + y + " is '" + want[y] + "', not '" + got + "'", got.equals(want[y]));
        }
    }

    static void room(String what, GlkPanes x, int pane, int columns, int rows, int left, int upper) {
        Due.is(what + ": columns of " + pane, x.pane(pane, 1), columns);
        Due.is(what + ": rows of " + pane, x.pane(pane, 2), rows);
        Due.is(what + ": x of " + pane, x.pane(pane, 3), left);
        Due.is(what + ": y of " + pane, x.pane(pane, 4), upper);
    }

    /** The sign, STYLE and LINK that are shown at a place of a pane. */
    static void ink(String what, GlkPanes x, int pane, int column, int row, int sign, int style, int link) {
        String place = what + " at " + column + ", " + row + " of " + pane + ": ";
        Due.is(place + "sign", x.shown(pane, column, row, 0), sign);
        Due.is(place + "STYLE", x.shown(pane, column, row, 1), style);
        Due.is(place + "LINK", x.shown(pane, column, row, 2), link);
    }

    static void cursor(String what, GlkPanes x, int pane, int column, int row) {
        Due.is(what + ": CURSOR's column", x.at(pane, 0), column);
        Due.is(what + ": CURSOR's row", x.at(pane, 1), row);
    }

    static void event(String what, GlkPanes x, int kind, int pane, int first, int second) {
        Due.is(what + ": take()", x.take(), kind);
        Due.is(what + ": event(0)", x.event(0), kind);
        Due.is(what + ": event(1)", x.event(1), pane);
        Due.is(what + ": event(2)", x.event(2), first);
        Due.is(what + ": event(3)", x.event(3), second);
    }
}
