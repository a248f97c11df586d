/** Promises 20 to 27: asks, events and counts. */
public final class AsksTest {
    private static final int BAD = GlkPanes.BAD, NONE = GlkPanes.NONE, NOT = GlkPanes.NOT;
    private static final int LEFT = 0, RIGHT = 1, ABOVE = 2, BELOW = 3, SHARE = 4;
    private static final int BLANK = 0, TEXT = 1, GRID = 2, PICTURE = 3;
    private static final int KEY = 0, LINE = 1, LINK = 2, CLICK = 3;

    public static void main(String[] args) {
        askCan();
        askRefuses();
        askOfBoth();
        cancel();
        cancelOfLine();
        asksEndWithTheirPane();
        echo();
        typeKey();
        typeLine();
        typeLimits();
        typeRefuses();
        clickOfGrid();
        clickOfLink();
        clickOfText();
        clickRefuses();
        take();
        takeOf21();
        takeAfterALine();
        event();
        eventsOfClosedPanes();
        count();
        Due.end();
    }

    private static void askCan() {
        int[][] due = {{1, 1, 1, NOT}, {1, 1, 1, 1}, {NOT, NOT, NOT, NOT}, {NOT, NOT, NOT, NOT},
            {NOT, NOT, NOT, NOT}, {NOT, NOT, NOT, NOT}, {NOT, NOT, NOT, NOT}};
        for (int n = 1; n <= 7; n++) {
            for (int kind = 0; kind < 4; kind++) {
                GlkPanes x = Play.allKinds();
                String call = "ask(" + n + ", " + kind + ", 1)";
                Due.is(call, x.ask(n, kind, 1), due[n - 1][kind]);
                Due.is(call + " again", x.ask(n, kind, 1), NOT);
                Due.is("cancel after " + call, x.cancel(n, kind), due[n - 1][kind] == NOT ? NONE : kind == LINE ? 0 : 1);
                Due.is(call + " anew", x.ask(n, kind, 1), due[n - 1][kind]);
            }
        }
    }

    private static void askRefuses() {
        GlkPanes x = Play.allKinds();
        int[] limits = {0, -1, 41, Integer.MAX_VALUE, Integer.MIN_VALUE};
        for (int limit : limits) {
            Due.is("LIMIT " + limit, x.ask(1, LINE, limit), BAD);
            Due.is("LIMIT " + limit + " of BLANK", x.ask(6, LINE, limit), BAD);
        }
        Due.is("no LINE is asked for", x.sign(1, 65), 1);
        for (int n : Play.NO_PANES) {
            Due.is("ask(" + n + ", 0, 0)", x.ask(n, KEY, 0), BAD);
        }
        int[] kinds = {-1, 4, Integer.MAX_VALUE, Integer.MIN_VALUE};
        for (int k : kinds) {
            Due.is("ask(1, " + k + ", 1)", x.ask(1, k, 1), BAD);
            Due.is("ask(6, " + k + ", 1)", x.ask(6, k, 1), BAD);
        }
        Due.is("LIMIT of KEY does not matter", x.ask(1, KEY, 41), 1);
        Due.is("LIMIT of LINK does not matter", x.ask(1, LINK, -1), 1);
        Due.is("LIMIT of CLICK does not matter", x.ask(2, CLICK, 99), 1);
        Due.is("least LIMIT", x.ask(2, LINE, 1), 1);
        Due.is("asked already, LIMIT", x.ask(2, LINE, 41), BAD);
        x.cancel(2, LINE);
        Due.is("most LIMIT", x.ask(2, LINE, 40), 1);
    }

    private static void askOfBoth() {
        for (int n = 1; n <= 2; n++) {
            GlkPanes x = Play.allKinds();
            Due.is("KEY", x.ask(n, KEY, 0), 1);
            Due.is("LINE at once", x.ask(n, LINE, 5), NOT);
            Due.is("LINE at once, BAD", x.ask(n, LINE, 0), BAD);
            Due.is("no LINE", x.cancel(n, LINE), NONE);
            Due.is("LINK as well", x.ask(n, LINK, 0), 1);
            Due.is("CLICK as well", x.ask(n, CLICK, 0), n == 2 ? 1 : NOT);
            Due.is("no KEY any more", x.cancel(n, KEY), 1);
            Due.is("LINE then", x.ask(n, LINE, 5), 1);
            Due.is("KEY at once", x.ask(n, KEY, 0), NOT);
            Due.is("no KEY", x.cancel(n, KEY), NONE);
            Due.is("another pane's", x.ask(3 - n, KEY, 0), 1);
        }
    }

    private static void cancel() {
        GlkPanes x = Play.allKinds();
        for (int kind = 0; kind < 4; kind++) {
            for (int n = 1; n <= 7; n++) {
                Due.is("cancel(" + n + ", " + kind + ")", x.cancel(n, kind), NONE);
            }
            for (int n : Play.NO_PANES) {
                Due.is("cancel(" + n + ", " + kind + ")", x.cancel(n, kind), BAD);
            }
        }
        int[] kinds = {-1, 4, Integer.MAX_VALUE};
        for (int k : kinds) {
            Due.is("cancel(1, " + k + ")", x.cancel(1, k), BAD);
            Due.is("cancel(6, " + k + ")", x.cancel(6, k), BAD);
        }
        x.ask(1, KEY, 0);
        Due.is("KEY", x.cancel(1, KEY), 1);
        Due.is("typed then", x.type(1, 65), 0);
        x.ask(2, CLICK, 0);
        Due.is("CLICK", x.cancel(2, CLICK), 1);
        Due.is("clicked then", x.click(x.pane(2, 3), 0), 0);
        Due.is("no EVENT", x.count(5), 0);
        Due.is("nothing ECHOED", x.pane(1, 8), 0);
    }

    private static void cancelOfLine() {
        GlkPanes x = Play.allKinds();
        x.ask(1, LINE, 9);
        Due.is("no signs", x.cancel(1, LINE), 0);
        Due.is("an END is ECHOED", x.pane(1, 8), 1);
        Due.is("LINES", x.lines(1), 2);
        x.ask(1, LINE, 9);
        Play.type(x, 1, "abc");
        Due.is("three signs", x.cancel(1, LINE), 3);
        Due.is("ECHOED", x.pane(1, 8), 5);
        Due.is("its first sign", x.shown(1, 0, 1, 0), 'a');
        Due.is("STYLE 8", x.shown(1, 0, 1, 1), 8);
        Due.is("no EVENT", x.take(), NONE);
        Due.is("signs can come again", x.sign(1, 65), 1);
        Due.is("typed then", x.type(1, 66), 0);
        x.echo(1, false);
        x.ask(1, LINE, 9);
        Play.type(x, 1, "xy");
        Due.is("two signs", x.cancel(1, LINE), 2);
        Due.is("not ECHOED", x.pane(1, 8), 6);
        x.ask(1, LINE, 9);
        Due.is("a new LINE has no signs", x.cancel(1, LINE), 0);
    }

    private static void asksEndWithTheirPane() {
        GlkPanes x = new GlkPanes(20, 6);
        x.open(0, 0, 0, GRID);
        x.ask(1, CLICK, 0);
        x.ask(1, LINE, 4);
        Play.type(x, 1, "ab");
        Due.is("a LINE is not WRITTEN when its pane is closed", x.close(1), 0);
        Due.is("no EVENT", x.count(5), 0);
        x.open(0, 0, 0, GRID);
        Due.is("no CLICK", x.click(0, 0), 0);
        Due.is("type for a closed pane", x.type(1, 10), BAD);
        Due.is("cancel of a closed pane", x.cancel(1, LINE), BAD);
        Due.is("the new pane is not asked", x.cancel(2, LINE), NONE);
    }

    private static void echo() {
        GlkPanes x = Play.allKinds();
        for (int n = 1; n <= 2; n++) {
            Due.is("at first it does", x.echo(n, true), 1);
            Due.is("still", x.echo(n, false), 1);
            Due.is("told", x.pane(n, 9), 0);
            Due.is("no more", x.echo(n, false), 0);
            Due.is("no", x.echo(n, true), 0);
            Due.is("told", x.pane(n, 9), 1);
        }
        int[] others = {3, 4, 5, 6, 7};
        for (int n : others) {
            Due.is("echo(" + n + ", false)", x.echo(n, false), NOT);
            Due.is("as at first", x.pane(n, 9), 1);
        }
        for (int n : Play.NO_PANES) {
            Due.is("echo(" + n + ", true)", x.echo(n, true), BAD);
        }
        x.ask(1, LINE, 3);
        Play.type(x, 1, "q");
        Due.is("while a LINE is asked for", x.echo(1, false), 1);
        x.type(1, 10);
        Due.is("it is as at its end", x.pane(1, 8), 0);
    }

    private static void typeKey() {
        int[] keys = {8, 10, 32, 65, 126};
        for (int n = 1; n <= 2; n++) {
            for (int c : keys) {
                GlkPanes x = Play.allKinds();
                Due.is("without KEY", x.type(n, c), 0);
                x.ask(n, KEY, 0);
                Due.is("with KEY", x.type(n, c), 1);
                Due.is("it is met", x.type(n, c), 0);
                Due.is("it has ended", x.cancel(n, KEY), NONE);
                Due.is("one EVENT", x.count(5), 1);
                Play.event("KEY", x, 0, n, c, 0);
                Due.is("no signs of a LINE", x.event(4), 0);
                Due.is("nothing WRITTEN", x.pane(n, 8), 0);
            }
        }
    }

    private static void typeLine() {
        GlkPanes x = Play.allKinds();
        x.ask(1, LINE, 10);
        Due.is("8 without a sign", x.type(1, 8), 0);
        Play.type(x, 1, "ab~ ");
        Due.is("8", x.type(1, 8), 0);
        Due.is("no EVENT yet", x.count(5), 0);
        Due.is("10", x.type(1, 10), 1);
        Due.is("it is met", x.type(1, 10), 0);
        Due.is("it has ended", x.cancel(1, LINE), NONE);
        Due.is("ECHOED", x.pane(1, 8), 4);
        Due.is("an END, too", x.lines(1), 2);
        Play.event("LINE", x, 1, 1, 3, 0);
        int[] signs = {'a', 'b', '~', 0, 0};
        for (int i = 0; i < signs.length; i++) {
            Due.is("sign " + i, x.event(4 + i), signs[i]);
        }
        x.ask(1, LINE, 10);
        Due.is("an empty LINE", x.type(1, 10), 1);
        Due.is("an END is ECHOED", x.pane(1, 8), 5);
        Play.event("empty LINE", x, 1, 1, 0, 0);
        Due.is("no sign of the last one", x.event(4), 0);
        x.ask(1, LINE, 10);
        Play.type(x, 1, "y");
        Due.is("8 takes the only sign", x.type(1, 8), 0);
        Due.is("none is left", x.cancel(1, LINE), 0);
        Due.is("an END is ECHOED again", x.pane(1, 8), 6);
        x.echo(1, false);
        x.ask(1, LINE, 10);
        Play.type(x, 1, "z");
        Due.is("without ECHO", x.type(1, 10), 1);
        Due.is("not ECHOED", x.pane(1, 8), 6);
        Play.event("LINE without ECHO", x, 1, 1, 1, 0);
        Due.is("its sign", x.event(4), 'z');
        x.ask(2, LINE, 10);
        Play.type(x, 2, "grid");
        Due.is("of a GRID", x.type(2, 10), 1);
        Due.is("ECHOED there", x.shown(2, 3, 0, 0), 'd');
        Due.is("in STYLE 8", x.shown(2, 3, 0, 1), 8);
        Due.is("CURSOR's column", x.at(2, 0), 0);
        Due.is("CURSOR's row", x.at(2, 1), 1);
        Due.is("WRITTEN", x.pane(2, 8), 5);
        Play.event("LINE of a GRID", x, 1, 2, 4, 0);
    }

    private static void typeLimits() {
        GlkPanes x = Play.allKinds();
        x.ask(1, LINE, 2);
        Play.type(x, 1, "abc");
        Due.is("no more than the LIMIT", x.shown(1, 2, 0, 0), 32);
        x.type(1, 8);
        Play.type(x, 1, "d");
        x.type(1, 10);
        Play.event("LIMIT 2", x, 1, 1, 2, 0);
        Due.is("first", x.event(4), 'a');
        Due.is("second", x.event(5), 'd');
        Due.is("third", x.event(6), 0);
        x.ask(1, LINE, 40);
        for (int i = 0; i < 45; i++) {
            Due.is("type", x.type(1, 40 + i), 0);
        }
        x.type(1, 10);
        Play.event("LIMIT 40", x, 1, 1, 40, 0);
        for (int i = 0; i < 40; i++) {
            Due.is("sign " + i, x.event(4 + i), 40 + i);
        }
        x.ask(1, LINE, 1);
        Play.type(x, 1, "pq");
        Due.is("LIMIT 1", x.cancel(1, LINE), 1);
    }

    private static void typeRefuses() {
        GlkPanes x = Play.allKinds();
        x.ask(1, KEY, 0);
        int[] bad = {-1, 0, 7, 9, 11, 31, 127, Integer.MAX_VALUE, Integer.MIN_VALUE};
        for (int c : bad) {
            Due.is("type(1, " + c + ")", x.type(1, c), BAD);
            Due.is("type(6, " + c + ")", x.type(6, c), BAD);
        }
        Due.is("KEY is still asked for", x.cancel(1, KEY), 1);
        for (int n : Play.NO_PANES) {
            Due.is("type(" + n + ", 65)", x.type(n, 65), BAD);
        }
        for (int n = 1; n <= 7; n++) {
            Due.is("type(" + n + ", 10)", x.type(n, 10), 0);
        }
        Due.is("no EVENT", x.count(5), 0);
    }

    private static void clickOfGrid() {
        GlkPanes x = new GlkPanes(20, 9);
        x.open(0, 0, 0, TEXT);
        x.open(1, RIGHT, 8, GRID);
        x.open(2, BELOW, 3, GRID);
        x.link(4, 5);
        Play.write(x, 4, "linked");
        x.ask(4, CLICK, 0);
        x.ask(4, LINK, 0);
        Due.is("another GRID", x.click(12, 0), 0);
        Due.is("a BORDER", x.click(11, 7), 0);
        Due.is("the GRID", x.click(14, 6), 1);
        Play.event("CLICK ahead of LINK", x, 3, 4, 2, 0);
        Due.is("LINK then", x.click(14, 6), 1);
        Play.event("LINK", x, 2, 4, 5, 0);
        Due.is("nothing then", x.click(14, 6), 0);
        x.ask(4, CLICK, 0);
        Due.is("its last place", x.click(19, 8), 1);
        Play.event("its last place", x, 3, 4, 7, 2);
        Due.is("CLICK has ended", x.cancel(4, CLICK), NONE);
        x.ask(4, CLICK, 0);
        Due.is("its first place", x.click(12, 6), 1);
        Play.event("its first place", x, 3, 4, 0, 0);
    }

    private static void clickOfLink() {
        GlkPanes x = new GlkPanes(20, 4);
        x.open(0, 0, 0, GRID);
        Play.write(x, 1, "a");
        x.link(1, 999);
        Play.write(x, 1, "b c");
        Due.is("not asked", x.click(1, 0), 0);
        x.ask(1, LINK, 0);
        Due.is("no LINK", x.click(0, 0), 0);
        Due.is("nothing stands there", x.click(0, 1), 0);
        Due.is("still asked", x.ask(1, LINK, 0), NOT);
        Due.is("a 32 with a LINK", x.click(2, 0), 1);
        Play.event("LINK", x, 2, 1, 999, 0);
        Due.is("it has ended", x.cancel(1, LINK), NONE);
        x.ask(1, LINK, 0);
        x.cursor(1, 1, 0);
        x.ask(1, LINE, 5);
        Play.type(x, 1, "L");
        Due.is("a LINE over it has no LINK", x.click(1, 0), 0);
        Due.is("behind the LINE", x.click(3, 0), 1);
    }

    private static void clickOfText() {
        GlkPanes x = new GlkPanes(10, 5);
        x.open(0, 0, 0, TEXT);
        x.open(1, LEFT, 3, GRID);
        Play.write(x, 1, "see the ");
        x.link(1, 12);
        Play.write(x, 1, "lamp");
        x.link(1, 0);
        Play.write(x, 1, "!");
        Play.rows("rows", x, 1, "see", "the", "lamp!", "", "");
        x.ask(1, LINK, 0);
        int[][] none = {{4, 0}, {4, 1}, {8, 2}, {9, 2}, {4, 3}, {3, 2}, {0, 2}};
        for (int[] n : none) {
            Due.is("click(" + n[0] + ", " + n[1] + ")", x.click(n[0], n[1]), 0);
        }
        Due.is("the lamp", x.click(7, 2), 1);
        Play.event("the lamp", x, 2, 1, 12, 0);
        x.resize(12, 5);
        x.ask(1, LINK, 0);
        Play.rows("wrapped again", x, 1, "see the", "lamp!", "", "", "");
        Due.is("not there any more", x.click(7, 2), 0);
        Due.is("but here", x.click(4, 1), 1);
        GlkPanes y = Play.allKinds();
        y.ask(1, KEY, 0);
        Due.is("a KEY is no CLICK", y.click(0, 0), 0);
        y.link(4, 5);
        y.link(6, 5);
        y.picture(4, 1);
        Due.is("PICTURE", y.click(0, 11), 0);
        Due.is("BLANK", y.click(40, 11), 0);
    }

    private static void clickRefuses() {
        GlkPanes x = new GlkPanes(10, 5);
        Due.is("no ROOT", x.click(0, 0), 0);
        int[][] bad = {{-1, 0}, {0, -1}, {10, 0}, {0, 5}, {Integer.MAX_VALUE, 0}, {0, Integer.MIN_VALUE}};
        for (int[] b : bad) {
            Due.is("click(" + b[0] + ", " + b[1] + ")", x.click(b[0], b[1]), BAD);
        }
        x.open(0, 0, 0, GRID);
        x.ask(1, CLICK, 0);
        for (int[] b : bad) {
            Due.is("click(" + b[0] + ", " + b[1] + ")", x.click(b[0], b[1]), BAD);
        }
        Due.is("still asked", x.click(9, 4), 1);
    }

    private static void take() {
        GlkPanes x = Play.allKinds();
        Due.is("none", x.take(), NONE);
        x.ask(1, KEY, 0);
        x.type(1, 'k');
        x.resize(50, 20);
        x.ask(2, LINE, 3);
        x.type(2, 'l');
        x.type(2, 10);
        Due.is("three wait", x.count(5), 3);
        Play.event("first", x, 0, 1, 'k', 0);
        Due.is("two wait", x.count(5), 2);
        Play.event("second", x, 4, 0, 50, 20);
        Play.event("third", x, 1, 2, 1, 0);
        Due.is("none waits", x.count(5), 0);
        Due.is("none", x.take(), NONE);
        Due.is("the last one is told still", x.event(0), 1);
        Due.is("with its sign", x.event(4), 'l');
    }

    private static void takeOf21() {
        GlkPanes x = new GlkPanes(10, 5);
        x.open(0, 0, 0, TEXT);
        for (int round = 0; round < 3; round++) {
            for (int i = 0; i < 20; i++) {
                press(x, 40 + i);
                Due.is("waiting", x.count(5), i + 1);
            }
            for (int i = 20; i < 23 + round; i++) {
                press(x, 40 + i);
                Due.is("20 at most", x.count(5), 20);
            }
            for (int i = 3 + round; i < 23 + round; i++) {
                Due.is("take()", x.take(), 0);
                Due.is("the oldest ones went", x.event(2), 40 + i);
            }
            Due.is("none", x.take(), NONE);
        }
    }

    private static void takeAfterALine() {
        GlkPanes x = Play.root(10, 5, TEXT);
        x.ask(1, LINE, 5);
        Play.type(x, 1, "abc");
        x.type(1, 10);
        for (int i = 0; i < 20; i++) {
            press(x, 40 + i);
        }
        for (int e = 0; e < 20; e++) {
            Due.is("the LINE went", x.take(), 0);
            for (int i = 4; i < 8; i++) {
                Due.is("no sign is left of it", x.event(i), 0);
            }
        }
    }

    private static void press(GlkPanes x, int c) {
        x.ask(1, KEY, 0);
        x.type(1, c);
    }

    private static void event() {
        GlkPanes x = new GlkPanes(10, 5);
        int[] bad = {-1, 44, 45, Integer.MAX_VALUE, Integer.MIN_VALUE};
        for (int b : bad) {
            Due.is("event(" + b + ")", x.event(b), BAD);
        }
        for (int i = 0; i < 44; i++) {
            Due.is("event(" + i + ")", x.event(i), NONE);
        }
        x.resize(11, 6);
        Due.is("not taken yet", x.event(0), NONE);
        x.take();
        int[] want = {4, 0, 11, 6};
        for (int i = 0; i < 44; i++) {
            Due.is("event(" + i + ")", x.event(i), i < 4 ? want[i] : 0);
        }
        for (int b : bad) {
            Due.is("event(" + b + ")", x.event(b), BAD);
        }
        x.resize(12, 7);
        Due.is("the one that was taken", x.event(2), 11);
    }

    private static void eventsOfClosedPanes() {
        GlkPanes x = new GlkPanes(10, 5);
        x.open(0, 0, 0, TEXT);
        x.ask(1, KEY, 0);
        x.type(1, 'k');
        x.close(1);
        Play.event("it waits still", x, 0, 1, 'k', 0);
    }

    private static void count() {
        GlkPanes x = new GlkPanes(33, 17);
        x.open(0, 0, 0, TEXT);
        x.open(1, ABOVE, 3, GRID);
        x.open(1, LEFT + SHARE, 30, BLANK);
        x.close(2);
        x.ask(1, KEY, 0);
        x.type(1, 65);
        int[] want = {33, 17, 3, 2, 5, 1};
        for (int i = 0; i < 6; i++) {
            Due.is("count(" + i + ")", x.count(i), want[i]);
        }
        int[] bad = {-1, 6, Integer.MAX_VALUE, Integer.MIN_VALUE};
        for (int b : bad) {
            Due.is("count(" + b + ")", x.count(b), BAD);
        }
        Due.is("a PICTURE", x.open(1, LEFT, 8, PICTURE), 6);
        Due.is("open", x.count(2), 5);
        Due.is("in all", x.count(4), 7);
    }
}
