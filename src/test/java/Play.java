/** Short ways to do with a screen what takes many calls. */
final class Play {
    /** Numbers that no pane of allKinds() has. */
    static final int[] NO_PANES = {0, -1, 8, 60, 61, Integer.MAX_VALUE, Integer.MIN_VALUE};

    private Play() {
    }

    /** 1 TEXT, 2 GRID, 4 PICTURE, 6 BLANK; 3, 5 and 7 are PAIRS. */
    static GlkPanes allKinds() {
        GlkPanes x = new GlkPanes(41, 12);
        x.open(0, 0, 0, 1);
        x.open(1, 1, 20, 2);
        x.open(1, 3, 48, 3);
        x.open(2, 7, 50, 0);
        return x;
    }

    static void write(GlkPanes x, int pane, String signs) {
        for (int i = 0; i < signs.length(); i++) {
            Due.is("sign(" + pane + ", " + (int) signs.charAt(i) + ")", x.sign(pane, signs.charAt(i)), 1);
        }
    }

    static void type(GlkPanes x, int pane, String signs) {
        for (int i = 0; i < signs.length(); i++) {
            Due.is("type(" + pane + ", " + (int) signs.charAt(i) + ")", x.type(pane, signs.charAt(i)), 0);
        }
    }

    /** What is shown in a pane's row, without the 32s at its end. */
    static String row(GlkPanes x, int pane, int y) {
        StringBuilder b = new StringBuilder();
        for (int i = 0; i < x.pane(pane, 1); i++) {
            b.append((char) x.shown(pane, i, y, 0));
        }
        return b.toString().stripTrailing();
    }

    static void rows(String what, GlkPanes x, int pane, String... want) {
        Due.is(what + ": rows", x.pane(pane, 2), want.length);
        for (int y = 0; y < want.length && y < x.pane(pane, 2); y++) {
            String got = row(x, pane, y);
            Due.isTrue(what + ": row " + y + " is '" + want[y] + "', not '" + got + "'", got.equals(want[y]));
        }
    }

    static void screen(String what, GlkPanes x, String... want) {
        Due.is(what + ": H", x.count(1), want.length);
        for (int y = 0; y < want.length && y < x.count(1); y++) {
            StringBuilder b = new StringBuilder();
            for (int i = 0; i < x.count(0); i++) {
                b.append((char) x.drawn(i, y));
            }
            String got = b.toString();
            Due.isTrue(what + ": drawn row " + y + " is '" + want[y] + "', not '" + got + "'", got.equals(want[y]));
        }
    }

    static void room(String what, GlkPanes x, int pane, int columns, int rows, int left, int upper) {
        Due.is(what + ": columns of " + pane, x.pane(pane, 1), columns);
        Due.is(what + ": rows of " + pane, x.pane(pane, 2), rows);
        Due.is(what + ": x of " + pane, x.pane(pane, 3), left);
        Due.is(what + ": y of " + pane, x.pane(pane, 4), upper);
    }

    static void event(String what, GlkPanes x, int kind, int pane, int first, int second) {
        Due.is(what + ": take()", x.take(), kind);
        Due.is(what + ": event(0)", x.event(0), kind);
        Due.is(what + ": event(1)", x.event(1), pane);
        Due.is(what + ": event(2)", x.event(2), first);
        Due.is(what + ": event(3)", x.event(3), second);
    }
}
