/** Promises 1 to 8: a new object, and the tree of panes. */
public final class PanesTest {
    private static final int BAD = GlkPanes.BAD, NONE = GlkPanes.NONE, NOT = GlkPanes.NOT, FULL = GlkPanes.FULL;
    private static final int LEFT = 0, RIGHT = 1, ABOVE = 2, BELOW = 3, SHARE = 4, NO_BORDER = 8;
    private static final int BLANK = 0, TEXT = 1, GRID = 2, PICTURE = 3;

    public static void main(String[] args) {
        newObject();
        openRoot();
        openSplits();
        openRefuses();
        openIsFullOfOpenPanes();
        openIsFullOfNumbers();
        layoutShares();
        layoutFixed();
        layoutOfSmallRooms();
        layoutOfDeepTrees();
        close();
        closeTakesKeys();
        arrange();
        arrangeKeys();
        arrangeRefuses();
        pane();
        pair();
        root();
        resize();
        resizeOfGrids();
        Due.end();
    }

    private static void newObject() {
        int[][] sizes = {{30, 10, 30, 10}, {4, 2, 4, 2}, {3, 1, 4, 2}, {60, 24, 60, 24}, {61, 25, 60, 24},
            {-5, -5, 4, 2}, {Integer.MAX_VALUE, Integer.MIN_VALUE, 60, 2}, {5, 3, 5, 3}, {59, 23, 59, 23}};
        for (int[] s : sizes) {
            GlkPanes x = new GlkPanes(s[0], s[1]);
            String what = "new GlkPanes(" + s[0] + ", " + s[1] + ") ";
            Due.is(what + "W", x.count(0), s[2]);
            Due.is(what + "H", x.count(1), s[3]);
            for (int i = 2; i <= 5; i++) {
                Due.is(what + "count(" + i + ")", x.count(i), 0);
            }
            Due.is(what + "root()", x.root(), NONE);
            Due.is(what + "take()", x.take(), NONE);
            Due.is(what + "event(0)", x.event(0), NONE);
        }
    }

    private static void openRoot() {
        GlkPanes x = new GlkPanes(20, 8);
        Due.is("open of a ROOT whose METHOD and SIZE do not matter", x.open(0, -7, 5000, TEXT), 1);
        Due.is("the ROOT", x.root(), 1);
        Play.room("the ROOT has all", x, 1, 20, 8, 0, 0);
        Due.is("a second ROOT", x.open(0, 0, 0, TEXT), NOT);
        Due.is("a second ROOT, METHOD and SIZE do not matter", x.open(0, 99, -1, GRID), NOT);
        Due.is("a second ROOT of no KIND", x.open(0, 0, 0, 4), BAD);
        Due.is("nothing came", x.count(4), 1);
        for (int kind = 0; kind <= 3; kind++) {
            GlkPanes y = new GlkPanes(20, 8);
            Due.is("open of a ROOT", y.open(0, 0, 0, kind), 1);
            Due.is("its KIND", y.pane(1, 0), kind);
        }
        GlkPanes z = new GlkPanes(20, 8);
        Due.is("ROOT of KIND -1", z.open(0, 0, 0, -1), BAD);
        Due.is("ROOT of KIND 4", z.open(0, 0, 0, 4), BAD);
        Due.is("no ROOT", z.root(), NONE);
        Due.is("split of 1 without a ROOT", z.open(1, 0, 0, TEXT), BAD);
    }

    private static void openSplits() {
        int[] sides = {LEFT, RIGHT, ABOVE, BELOW};
        for (int side : sides) {
            GlkPanes x = new GlkPanes(20, 9);
            x.open(0, 0, 0, TEXT);
            Due.is("the new pane's number", x.open(1, side, 3, GRID), 2);
            Due.is("the PAIR is the ROOT", x.root(), 3);
            Due.is("PAIR's KIND", x.pane(3, 0), 4);
            Due.is("PARENT of the new one", x.pane(2, 5), 3);
            Due.is("PARENT of the old one", x.pane(1, 5), 3);
            Due.is("PARENT of the ROOT", x.pane(3, 5), 0);
            boolean ahead = side == LEFT || side == ABOVE;
            Due.is("left or upper side", x.pair(3, 3), ahead ? 2 : 1);
            Due.is("the other side", x.pair(3, 4), ahead ? 1 : 2);
            Due.is("KEY", x.pair(3, 2), 2);
        }
        GlkPanes x = new GlkPanes(20, 9);
        x.open(0, 0, 0, TEXT);
        x.open(1, BELOW, 3, GRID);
        Due.is("a PAIR is split, too", x.open(3, RIGHT + SHARE, 50, BLANK), 4);
        Due.is("ROOT", x.root(), 5);
        Due.is("the old PAIR's PARENT", x.pane(3, 5), 5);
        Due.is("split of a side", x.open(2, LEFT + SHARE, 50, TEXT), 6);
        Due.is("the new PAIR is in the old one's place", x.pair(3, 4), 7);
        Due.is("the other side stays", x.pair(3, 3), 1);
        Due.is("its PARENT", x.pane(7, 5), 3);
        Due.is("a KEY stays", x.pair(3, 2), 2);
        Due.is("split of the upper side", x.open(1, ABOVE, 1, TEXT), 8);
        Due.is("the new PAIR is the upper side", x.pair(3, 3), 9);
    }

    private static void openRefuses() {
        GlkPanes x = new GlkPanes(20, 9);
        x.open(0, 0, 0, TEXT);
        int[][] bad = {{2, 0, 1, 1}, {-1, 0, 1, 1}, {60, 0, 1, 1}, {61, 0, 1, 1}, {Integer.MIN_VALUE, 0, 1, 1},
            {Integer.MAX_VALUE, 0, 1, 1}, {1, -1, 1, 1}, {1, 16, 1, 1}, {1, 0, -1, 1}, {1, 0, 1000, 1},
            {1, SHARE, 101, 1}, {1, SHARE, -1, 1}, {1, 15, 101, 1}, {1, 0, 1, 4}, {1, 0, 1, -1},
            {1, 0, 1000, BLANK}, {1, 0, 1, Integer.MAX_VALUE}};
        for (int[] b : bad) {
            Due.is("open(" + b[0] + ", " + b[1] + ", " + b[2] + ", " + b[3] + ")",
                x.open(b[0], b[1], b[2], b[3]), BAD);
        }
        for (int method = 0; method < 16; method++) {
            boolean fixed = (method & SHARE) == 0;
            Due.is("BLANK by " + method, new GlkPanes(20, 9).open(0, method, 1, BLANK), 1);
            GlkPanes y = new GlkPanes(20, 9);
            y.open(0, 0, 0, TEXT);
            Due.is("split to BLANK by " + method, y.open(1, method, 100, BLANK), fixed ? NOT : 2);
            GlkPanes z = new GlkPanes(20, 9);
            z.open(0, 0, 0, TEXT);
            Due.is("most SIZE by " + method, z.open(1, method, fixed ? 999 : 100, GRID), 2);
        }
        Due.is("nothing came", x.count(4), 1);
        x.open(1, 0, 1, GRID);
        x.close(2);
        Due.is("split of a closed pane", x.open(2, 0, 1, TEXT), BAD);
        Due.is("split of a closed PAIR", x.open(3, 0, 1, TEXT), BAD);
    }

    private static void openIsFullOfOpenPanes() {
        GlkPanes x = new GlkPanes(60, 24);
        x.open(0, 0, 0, TEXT);
        for (int i = 1; i < 12; i++) {
            Due.is("pane no. " + i, x.open(1, i % 4 + SHARE, 50, TEXT), 2 * i);
        }
        Due.is("12 that are no PAIRS", x.count(3), 12);
        Due.is("with PAIRS", x.count(2), 23);
        Due.is("a 13th", x.open(1, SHARE, 50, TEXT), FULL);
        Due.is("a 13th, BAD", x.open(1, SHARE, 101, TEXT), BAD);
        Due.is("a 13th, NOT", x.open(1, 0, 50, BLANK), NOT);
        Due.is("a 13th as ROOT", x.open(0, 0, 50, BLANK), NOT);
        Due.is("none came", x.count(4), 23);
        x.close(22);
        Due.is("room again", x.open(1, SHARE, 50, TEXT), 24);
        Due.is("in all", x.count(4), 25);
    }

    private static void openIsFullOfNumbers() {
        GlkPanes x = new GlkPanes(60, 24);
        x.open(0, 0, 0, TEXT);
        for (int n = 2; n <= 58; n += 2) {
            Due.is("pane " + n, x.open(1, SHARE, 50, GRID), n);
            Due.is("close(" + n + ")", x.close(n), 0);
        }
        Due.is("in all", x.count(4), 59);
        Due.is("two more of 59", x.open(1, SHARE, 50, GRID), FULL);
        x.close(1);
        Due.is("one more of 59", x.open(0, 0, 0, TEXT), 60);
        Due.is("pane 60", x.pane(60, 0), TEXT);
        Due.is("split of 60", x.open(60, SHARE, 50, GRID), FULL);
        x.close(60);
        Due.is("one more of 60", x.open(0, 0, 0, TEXT), FULL);
        Due.is("one more of 60, BAD", x.open(0, 0, 0, 4), BAD);
        Due.is("in all", x.count(4), 60);
    }

    private static void layoutShares() {
        GlkPanes x = new GlkPanes(31, 11);
        x.open(0, 0, 0, TEXT);
        x.open(1, LEFT + SHARE, 50, TEXT);
        Play.room("31 * 50 / 100 cut off", x, 2, 15, 11, 0, 0);
        Play.room("with a BORDER", x, 1, 15, 11, 16, 0);
        x.arrange(3, RIGHT + SHARE + NO_BORDER, 33, 0);
        Play.room("31 * 33 / 100", x, 2, 10, 11, 21, 0);
        Play.room("no BORDER", x, 1, 21, 11, 0, 0);
        x.arrange(3, LEFT + SHARE, 100, 0);
        Play.room("all but the BORDER", x, 2, 30, 11, 0, 0);
        Play.room("nothing left", x, 1, 0, 0, 0, 0);
        Due.is("the BORDER at the end", x.drawn(30, 5), 124);
        x.arrange(3, RIGHT + SHARE, 100, 0);
        Play.room("all but the BORDER on the right", x, 2, 30, 11, 1, 0);
        Due.is("the BORDER at the begin", x.drawn(0, 5), 124);
        x.arrange(3, RIGHT + SHARE + NO_BORDER, 100, 0);
        Play.room("all", x, 2, 31, 11, 0, 0);
        x.arrange(3, RIGHT + SHARE, 0, 0);
        Play.room("nothing", x, 2, 0, 0, 0, 0);
        Play.room("all but the BORDER for the other", x, 1, 30, 11, 0, 0);
        GlkPanes y = new GlkPanes(31, 11);
        y.open(0, 0, 0, TEXT);
        y.open(1, ABOVE + SHARE, 30, BLANK);
        Play.room("11 * 30 / 100", y, 2, 31, 3, 0, 0);
        Play.room("below", y, 1, 31, 7, 0, 4);
        y.arrange(3, BELOW + SHARE, 30, 0);
        Play.room("11 * 30 / 100 below", y, 2, 31, 3, 0, 8);
        Play.room("above", y, 1, 31, 7, 0, 0);
    }

    private static void layoutFixed() {
        int[][] wants = {{TEXT, LEFT, 7, 7}, {GRID, RIGHT, 7, 7}, {TEXT, ABOVE, 3, 3}, {GRID, BELOW, 3, 3},
            {PICTURE, LEFT, 16, 2}, {PICTURE, LEFT, 17, 3}, {PICTURE, RIGHT, 1, 1}, {PICTURE, RIGHT, 0, 0},
            {PICTURE, RIGHT, 8, 1}, {PICTURE, RIGHT, 9, 2}, {PICTURE, ABOVE, 32, 2}, {PICTURE, ABOVE, 33, 3},
            {PICTURE, BELOW, 1, 1}, {PICTURE, BELOW, 16, 1}, {PICTURE, BELOW, 17, 2}, {TEXT, LEFT, 0, 0},
            {TEXT, LEFT, 19, 19}, {TEXT, LEFT, 20, 19}, {GRID, LEFT, 999, 19}, {TEXT, BELOW, 8, 8},
            {TEXT, BELOW, 9, 8}, {PICTURE, LEFT, 999, 19}, {PICTURE, ABOVE, 999, 8}};
        for (int[] w : wants) {
            GlkPanes x = new GlkPanes(20, 9);
            x.open(0, 0, 0, TEXT);
            x.open(1, w[1], w[2], w[0]);
            String what = "KIND " + w[0] + " by " + w[1] + " with " + w[2];
            boolean columns = w[1] <= RIGHT;
            Due.is(what, x.pane(2, columns ? 1 : 2), w[3]);
            Due.is(what + ", what is left", x.pane(1, columns ? 1 : 2), (columns ? 19 : 8) - w[3]);
        }
        GlkPanes x = new GlkPanes(20, 9);
        x.open(0, 0, 0, TEXT);
        x.open(1, LEFT, 20, GRID);
        x.arrange(3, LEFT + NO_BORDER, 20, 0);
        Play.room("all without a BORDER", x, 2, 20, 9, 0, 0);
    }

    private static void layoutOfSmallRooms() {
        GlkPanes x = new GlkPanes(10, 4);
        x.open(0, 0, 0, TEXT);
        x.open(1, LEFT, 1, TEXT);
        x.open(2, RIGHT + SHARE, 50, GRID);
        Due.is("one column is the BORDER", x.drawn(0, 0), 124);
        Play.room("a PAIR of one column", x, 5, 1, 4, 0, 0);
        Play.room("its left side", x, 2, 0, 0, 0, 0);
        Play.room("its right side", x, 4, 0, 0, 0, 0);
        x.arrange(3, LEFT, 0, 0);
        Play.room("a PAIR of no column has no rows", x, 5, 0, 0, 0, 0);
        Play.room("nor what is below", x, 4, 0, 0, 0, 0);
        Due.is("the BORDER of the upper PAIR", x.drawn(0, 3), 124);
        Due.is("it has no pane", x.under(0, 3), NONE);
        x.arrange(3, LEFT, 2, 0);
        x.arrange(5, RIGHT + SHARE, 50, 0);
        Play.room("50 of 2 with a BORDER", x, 4, 1, 4, 1, 0);
        Play.room("the other has none", x, 2, 0, 0, 0, 0);
        Due.is("BORDER ahead of it", x.drawn(0, 0), 124);
        GlkPanes y = new GlkPanes(10, 4);
        y.open(0, 0, 0, TEXT);
        y.open(1, RIGHT + NO_BORDER, 0, TEXT);
        y.open(2, ABOVE, 2, GRID);
        Play.room("a PAIR without columns gives its sides no rows", y, 4, 0, 0, 0, 0);
        Play.room("nor to the other", y, 2, 0, 0, 0, 0);
        Play.room("nor has it any", y, 5, 0, 0, 0, 0);
        Play.room("all to the left", y, 1, 10, 4, 0, 0);
        Due.is("resize counts what has room alone", y.resize(11, 4), 2);
    }

    private static void layoutOfDeepTrees() {
        GlkPanes x = new GlkPanes(60, 24);
        x.open(0, 0, 0, TEXT);
        for (int n = 2; n <= 22; n += 2) {
            x.open(1, (n / 2 % 2 == 0 ? BELOW : RIGHT) + SHARE, 30, GRID);
        }
        Play.room("first split", x, 2, 18, 24, 42, 0);
        Play.room("second split", x, 4, 41, 7, 0, 17);
        Play.room("third split", x, 6, 12, 16, 29, 0);
        Play.room("fourth split", x, 8, 28, 4, 0, 12);
        Play.room("the last of all", x, 1, 6, 2, 0, 0);
        Play.room("its neighbour", x, 22, 2, 2, 7, 0);
        Due.is("its place", x.under(5, 1), 1);
        Due.is("the BORDER between", x.under(6, 1), NONE);
        Due.is("its neighbour's place", x.under(7, 1), 22);
        Due.is("41 columns and 16 rows are left as before", x.resize(59, 23), 4);
        Due.is("all of them", x.resize(40, 18), 23);
        x.close(3);
        Due.is("all are closed", x.count(2), 0);
    }

    private static void close() {
        GlkPanes x = new GlkPanes(30, 12);
        x.open(0, 0, 0, TEXT);
        Play.write(x, 1, "ab\nc");
        x.open(1, ABOVE, 3, GRID);
        x.open(1, RIGHT + SHARE, 50, TEXT);
        x.open(4, BELOW + SHARE, 50, PICTURE);
        int[] bad = {0, -1, 8, 61, 99, Integer.MAX_VALUE, Integer.MIN_VALUE};
        for (int b : bad) {
            Due.is("close(" + b + ")", x.close(b), BAD);
        }
        Play.write(x, 4, "xyz");
        Due.is("close of a PAIR", x.close(7), 0);
        int[] gone = {4, 5, 6, 7};
        for (int g : gone) {
            Due.is("closed " + g, x.pane(g, 0), BAD);
            Due.is("close again of " + g, x.close(g), BAD);
        }
        Due.is("the other side has the PAIR's place", x.pair(3, 4), 1);
        Due.is("its PARENT", x.pane(1, 5), 3);
        Play.room("its room", x, 1, 30, 8, 0, 4);
        Due.is("open", x.count(2), 3);
        Due.is("no PAIRS", x.count(3), 2);
        Due.is("in all", x.count(4), 7);
        Due.is("WRITTEN of a GRID", x.close(2), 0);
        Due.is("ROOT", x.root(), 1);
        Due.is("no PARENT", x.pane(1, 5), 0);
        Due.is("WRITTEN", x.close(1), 4);
        Due.is("no ROOT", x.root(), NONE);
        Due.is("nothing drawn", x.drawn(0, 0), 32);
        Due.is("a new ROOT", x.open(0, 0, 0, TEXT), 8);
        Due.is("empty", x.lines(8), 0);
        x.open(8, LEFT + SHARE, 50, TEXT);
        x.open(9, LEFT + SHARE, 50, TEXT);
        Due.is("close of the ROOT", x.close(10), 0);
        Due.is("all closed", x.count(2), 0);
    }

    private static void closeTakesKeys() {
        GlkPanes x = new GlkPanes(30, 12);
        x.open(0, 0, 0, TEXT);
        x.open(1, ABOVE, 3, GRID);
        x.open(2, RIGHT + SHARE, 50, TEXT);
        Due.is("KEY of the upper PAIR", x.pair(3, 2), 2);
        x.close(2);
        Due.is("no KEY any more", x.pair(3, 2), NONE);
        Due.is("its side", x.pair(3, 3), 4);
        Play.room("without a KEY none", x, 4, 0, 0, 0, 0);
        Play.room("all but the BORDER", x, 1, 30, 11, 0, 1);
        Due.is("BORDER", x.drawn(0, 0), 45);
        Due.is("FIXED without a KEY can be", x.arrange(3, ABOVE, 5, 0), 1);
        Due.is("still no KEY", x.pair(3, 2), NONE);
        x.arrange(3, ABOVE + SHARE, 50, 0);
        Play.room("by SHARE without a KEY", x, 4, 30, 6, 0, 0);
        x.arrange(3, ABOVE, 5, 4);
        Play.room("with a KEY again", x, 4, 30, 5, 0, 0);
        x.open(1, BELOW, 2, TEXT);
        Due.is("a KEY below the other side", x.arrange(3, ABOVE, 4, 6), 1);
        Play.room("by its SIZE", x, 4, 30, 4, 0, 0);
        x.close(7);
        Due.is("6 is closed below 7", x.pane(6, 0), BAD);
        Due.is("and 3 with it", x.root(), 4);
    }

    private static void arrange() {
        GlkPanes x = new GlkPanes(30, 12);
        x.open(0, 0, 0, TEXT);
        x.open(1, LEFT, 10, GRID);
        Due.is("another SIZE", x.arrange(3, LEFT, 7, 0), 1);
        Play.room("7", x, 2, 7, 12, 0, 0);
        Play.room("the other one", x, 1, 22, 12, 8, 0);
        Due.is("the other side", x.arrange(3, RIGHT, 7, 0), 1);
        Due.is("sides change places", x.pair(3, 3), 1);
        Due.is("both", x.pair(3, 4), 2);
        Play.room("on the right", x, 2, 7, 12, 23, 0);
        Play.room("on the left", x, 1, 22, 12, 0, 0);
        Due.is("the same side again", x.arrange(3, RIGHT + SHARE, 50, 0), 1);
        Due.is("no change of places", x.pair(3, 3), 1);
        Due.is("METHOD", x.pair(3, 0), RIGHT + SHARE);
        Due.is("SIZE", x.pair(3, 1), 50);
        Due.is("back", x.arrange(3, LEFT + SHARE + NO_BORDER, 50, 0), 1);
        Due.is("places again", x.pair(3, 3), 2);
        Play.room("no BORDER", x, 1, 15, 12, 15, 0);
        GlkPanes y = new GlkPanes(30, 12);
        y.open(0, 0, 0, TEXT);
        y.open(1, BELOW, 2, GRID);
        Due.is("from below to above", y.arrange(3, ABOVE, 2, 0), 1);
        Play.room("above", y, 2, 30, 2, 0, 0);
        Due.is("upper side", y.pair(3, 3), 2);
    }

    private static void arrangeKeys() {
        GlkPanes x = new GlkPanes(30, 12);
        x.open(0, 0, 0, TEXT);
        x.open(1, LEFT, 16, GRID);
        x.open(2, BELOW, 16, PICTURE);
        x.open(1, BELOW + SHARE, 50, BLANK);
        x.open(7, RIGHT + SHARE, 50, TEXT);
        Play.room("KEY is a GRID", x, 5, 16, 12, 0, 0);
        Due.is("KEY below the side", x.arrange(3, LEFT, 16, 4), 1);
        Due.is("KEY", x.pair(3, 2), 4);
        Play.room("KEY is a PICTURE", x, 5, 2, 12, 0, 0);
        Due.is("KEY on the other side", x.arrange(3, LEFT, 16, 1), 1);
        Play.room("KEY is a TEXT", x, 5, 16, 12, 0, 0);
        Due.is("KEY deep below", x.arrange(3, LEFT, 9, 8), 1);
        Due.is("KEY is 8", x.pair(3, 2), 8);
        Due.is("KEY as it was", x.arrange(3, LEFT, 5, 0), 1);
        Due.is("KEY is still 8", x.pair(3, 2), 8);
        Due.is("FIXED by BLANK", x.arrange(3, LEFT, 5, 6), NOT);
        Due.is("SHARE with BLANK as KEY", x.arrange(3, LEFT + SHARE, 5, 6), 1);
        Due.is("KEY is 6", x.pair(3, 2), 6);
        Due.is("FIXED by BLANK, as it was", x.arrange(3, LEFT, 5, 0), NOT);
        Due.is("METHOD stays", x.pair(3, 0), LEFT + SHARE);
        Due.is("FIXED with another KEY", x.arrange(3, LEFT, 5, 2), 1);
        Due.is("KEY is a PAIR", x.arrange(3, LEFT, 5, 5), BAD);
        Due.is("KEY is the PAIR itself", x.arrange(3, LEFT, 5, 3), BAD);
        Due.is("KEY not below", x.arrange(5, BELOW, 5, 1), BAD);
        Due.is("KEY not open", x.arrange(3, LEFT, 5, 20), BAD);
        Due.is("KEY below 0", x.arrange(3, LEFT, 5, -1), BAD);
        Due.is("KEY far off", x.arrange(3, LEFT, 5, Integer.MAX_VALUE), BAD);
        x.close(8);
        Due.is("KEY closed", x.arrange(3, LEFT, 5, 8), BAD);
        Due.is("KEY is 2", x.pair(3, 2), 2);
        Due.is("SIZE is 5", x.pair(3, 1), 5);
    }

    private static void arrangeRefuses() {
        GlkPanes x = new GlkPanes(30, 12);
        x.open(0, 0, 0, TEXT);
        x.open(1, LEFT, 10, GRID);
        int[][] bad = {{0, 0, 1, 0}, {1, 0, 1, 0}, {2, 0, 1, 0}, {4, 0, 1, 0}, {-3, 0, 1, 0}, {3, -1, 1, 0},
            {3, 16, 1, 0}, {3, 0, -1, 0}, {3, 0, 1000, 0}, {3, SHARE, 101, 0}, {3, ABOVE, 1000, 0}, {3, ABOVE, 1, 9}};
        for (int[] b : bad) {
            Due.is("arrange(" + b[0] + ", " + b[1] + ", " + b[2] + ", " + b[3] + ")",
                x.arrange(b[0], b[1], b[2], b[3]), BAD);
        }
        Due.is("rows for columns", x.arrange(3, ABOVE, 1, 0), NOT);
        Due.is("rows for columns, below", x.arrange(3, BELOW + SHARE, 1, 0), NOT);
        Due.is("METHOD as it was", x.pair(3, 0), LEFT);
        Due.is("SIZE as it was", x.pair(3, 1), 10);
        x.close(2);
        Due.is("a closed PAIR", x.arrange(3, LEFT, 1, 0), BAD);
        GlkPanes y = new GlkPanes(30, 12);
        y.open(0, 0, 0, TEXT);
        y.open(1, BELOW, 2, GRID);
        Due.is("columns for rows", y.arrange(3, LEFT, 1, 0), NOT);
        Due.is("columns for rows, right", y.arrange(3, RIGHT + SHARE, 1, 0), NOT);
        Due.is("most SIZE", y.arrange(3, BELOW, 999, 0), 1);
        Due.is("most SHARE", y.arrange(3, BELOW + SHARE + NO_BORDER, 100, 0), 1);
    }

    private static void pane() {
        GlkPanes x = new GlkPanes(30, 12);
        x.open(0, 0, 0, TEXT);
        x.open(1, RIGHT, 10, GRID);
        x.style(2, 4);
        x.link(2, 44);
        Play.write(x, 2, "hello\n");
        x.echo(2, false);
        int[] grid = {GRID, 10, 12, 20, 0, 3, 4, 44, 6, 0};
        int[] text = {TEXT, 19, 12, 0, 0, 3, 0, 0, 0, 1};
        int[] pair = {4, 30, 12, 0, 0, 0, 0, 0, 0, 1};
        for (int what = 0; what < 10; what++) {
            Due.is("pane(1, " + what + ")", x.pane(1, what), text[what]);
            Due.is("pane(2, " + what + ")", x.pane(2, what), grid[what]);
            Due.is("pane(3, " + what + ")", x.pane(3, what), pair[what]);
        }
        int[] bad = {-1, 10, Integer.MAX_VALUE, Integer.MIN_VALUE};
        for (int b : bad) {
            Due.is("pane(1, " + b + ")", x.pane(1, b), BAD);
            Due.is("pane(" + b + ", 0)", x.pane(b, 0), BAD);
        }
        Due.is("pane(0, 0)", x.pane(0, 0), BAD);
        Due.is("pane(4, 0)", x.pane(4, 0), BAD);
        Due.is("pane(60, 0)", x.pane(60, 0), BAD);
        Due.is("pane(61, 0)", x.pane(61, 0), BAD);
    }

    private static void pair() {
        GlkPanes x = new GlkPanes(30, 12);
        x.open(0, 0, 0, TEXT);
        Due.is("no PAIR", x.pair(1, 0), BAD);
        x.open(1, BELOW + SHARE + NO_BORDER, 77, GRID);
        int[] want = {BELOW + SHARE + NO_BORDER, 77, 2, 1, 2};
        for (int what = 0; what < 5; what++) {
            Due.is("pair(3, " + what + ")", x.pair(3, what), want[what]);
        }
        Due.is("pair(3, -1)", x.pair(3, -1), BAD);
        Due.is("pair(3, 5)", x.pair(3, 5), BAD);
        Due.is("pair(2, 0)", x.pair(2, 0), BAD);
        Due.is("pair(0, 0)", x.pair(0, 0), BAD);
        Due.is("pair(4, 0)", x.pair(4, 0), BAD);
        Due.is("pair(99, 0)", x.pair(99, 0), BAD);
        x.open(2, LEFT, 3, TEXT);
        x.close(2);
        Due.is("KEY of none", x.pair(3, 2), NONE);
        Due.is("BAD ahead of NONE", x.pair(3, 6), BAD);
        x.close(4);
        Due.is("a closed PAIR", x.pair(3, 2), BAD);
    }

    private static void root() {
        GlkPanes x = new GlkPanes(30, 12);
        Due.is("none", x.root(), NONE);
        x.open(0, 0, 0, BLANK);
        Due.is("first", x.root(), 1);
        x.open(1, LEFT, 3, TEXT);
        Due.is("PAIR", x.root(), 3);
        x.open(1, LEFT, 3, TEXT);
        Due.is("split below does not change it", x.root(), 3);
        x.close(2);
        Due.is("what was on the other side", x.root(), 5);
        x.close(5);
        Due.is("none again", x.root(), NONE);
    }

    private static void resize() {
        GlkPanes x = new GlkPanes(30, 12);
        Due.is("no panes", x.resize(20, 10), 0);
        Play.event("with W and H", x, 4, 0, 20, 10);
        x.open(0, 0, 0, TEXT);
        x.open(1, LEFT, 10, GRID);
        x.open(1, BELOW, 2, TEXT);
        Due.is("no more columns", x.resize(20, 12), 5);
        Due.is("W only: 2 keeps its size and place", x.resize(26, 12), 4);
        Due.is("the same size", x.resize(26, 12), 0);
        Due.is("the lower one keeps its size, not its place", x.resize(26, 14), 5);
        Due.is("EVENTS", x.count(5), 4);
        Play.event("first", x, 4, 0, 20, 12);
        Play.event("second", x, 4, 0, 26, 12);
        Play.event("third, of the same size", x, 4, 0, 26, 12);
        Play.event("fourth", x, 4, 0, 26, 14);
        int[][] sizes = {{3, 1, 4, 2}, {61, 25, 60, 24}, {Integer.MIN_VALUE, Integer.MAX_VALUE, 4, 24}};
        for (int[] s : sizes) {
            x.resize(s[0], s[1]);
            Due.is("W", x.count(0), s[2]);
            Due.is("H", x.count(1), s[3]);
            Play.event("as the nearest", x, 4, 0, s[2], s[3]);
        }
        Play.room("a GRID of 10 in 4 columns", x, 2, 3, 24, 0, 0);
        Play.room("no room", x, 1, 0, 0, 0, 0);
        Due.is("panes without room before and now do not count", x.resize(5, 24), 2);
        Due.is("wide again", x.resize(30, 24), 5);
        GlkPanes y = new GlkPanes(30, 12);
        y.open(0, 0, 0, TEXT);
        y.open(1, RIGHT, 5, GRID);
        Due.is("place alone counts, too", y.resize(31, 12), 3);
    }

    private static void resizeOfGrids() {
        GlkPanes x = new GlkPanes(8, 4);
        x.open(0, 0, 0, GRID);
        Play.write(x, 1, "abcdefgh12345678ABCDEFGHstuvwxyz");
        x.resize(5, 3);
        Play.rows("what lies within", x, 1, "abcde", "12345", "ABCDE");
        Due.is("the CURSOR stays", x.at(1, 0), 8);
        Due.is("in its row", x.at(1, 1), 3);
        x.resize(8, 4);
        Play.rows("what is new is blank", x, 1, "abcde", "12345", "ABCDE", "");
        x.open(1, ABOVE + SHARE, 100, TEXT);
        Play.room("no room", x, 1, 0, 0, 0, 0);
        x.close(2);
        Play.rows("nothing is kept", x, 1, "", "", "", "");
        x.cursor(1, 0, 0);
        x.style(1, 3);
        x.link(1, 9);
        Play.write(x, 1, "abcdefgh");
        x.resize(60, 24);
        Due.is("STYLE is kept", x.shown(1, 7, 0, 1), 3);
        Due.is("LINK is kept", x.shown(1, 7, 0, 2), 9);
        Due.is("new ones have no STYLE", x.shown(1, 8, 0, 1), 0);
        x.cursor(1, 59, 23);
        Play.write(x, 1, "Z");
        Due.is("the last place", x.shown(1, 59, 23, 0), 'Z');
        x.resize(59, 24);
        x.resize(60, 24);
        Due.is("lost", x.shown(1, 59, 23, 0), 32);
        Due.is("lost with its STYLE", x.shown(1, 59, 23, 1), 0);
        Due.is("lost with its LINK", x.shown(1, 59, 23, 2), 0);
        x.open(1, LEFT + NO_BORDER, 3, TEXT);
        Due.is("signs go with their pane's place", x.drawn(3, 0), 'a');
    }
}
