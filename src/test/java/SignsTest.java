/** Promises 9 to 19: signs and how they are shown. */
public final class SignsTest {
    private static final int BAD = GlkPanes.BAD, NONE = GlkPanes.NONE, NOT = GlkPanes.NOT;
    private static final int LEFT = 0, RIGHT = 1, ABOVE = 2, BELOW = 3, SHARE = 4, NO_BORDER = 8;
    private static final int BLANK = 0, TEXT = 1, GRID = 2, PICTURE = 3;
    private static final int KEY = 0, LINE = 1, LINK = 2;

    public static void main(String[] args) {
        signRefuses();
        signOfGrid();
        signOfGridWithoutRoom();
        signsOfTextInTheirStyle();
        textKeeps400Signs();
        textWithoutEndKeeps400Signs();
        style();
        link();
        cursor();
        at();
        wipe();
        picture();
        shownRefuses();
        shownRows();
        shownLine();
        lineInGrid();
        linesWrap();
        linesCount();
        drawn();
        under();
        Due.end();
    }

    private static void signRefuses() {
        GlkPanes x = Play.allKinds();
        int[] bad = {-1, 0, 8, 9, 11, 13, 31, 127, 128, 256 + 65, Integer.MAX_VALUE, Integer.MIN_VALUE};
        for (int c : bad) {
            Due.is("sign(1, " + c + ")", x.sign(1, c), BAD);
            Due.is("sign(2, " + c + ")", x.sign(2, c), BAD);
            Due.is("sign(6, " + c + "), BAD ahead of NOT", x.sign(6, c), BAD);
        }
        for (int n : Play.NO_PANES) {
            Due.is("sign(" + n + ", 65)", x.sign(n, 65), BAD);
        }
        int[] not = {3, 4, 5, 6, 7};
        for (int n : not) {
            Due.is("sign(" + n + ", 65)", x.sign(n, 65), NOT);
            Due.is("nothing came to " + n, x.pane(n, 8), 0);
        }
        x.ask(1, LINE, 3);
        x.ask(2, LINE, 3);
        Due.is("TEXT with a LINE", x.sign(1, 65), NOT);
        Due.is("GRID with a LINE", x.sign(2, 65), NOT);
        Due.is("nothing came", x.pane(1, 8) + x.pane(2, 8), 0);
        x.cancel(1, LINE);
        x.ask(1, KEY, 0);
        x.ask(1, LINK, 0);
        Due.is("TEXT with a KEY", x.sign(1, 32), 1);
        Due.is("most", x.sign(1, 126), 1);
        Due.is("END", x.sign(1, 10), 1);
        Due.is("WRITTEN with the END of the LINE", x.pane(1, 8), 4);
    }

    private static void signOfGrid() {
        GlkPanes x = new GlkPanes(5, 3);
        x.open(0, 0, 0, GRID);
        Play.rows("blank at first", x, 1, "", "", "");
        Play.write(x, 1, "abcde");
        Due.is("behind the last column", x.at(1, 0), 5);
        Due.is("in the same row", x.at(1, 1), 0);
        Play.write(x, 1, "f");
        Due.is("in the next row", x.at(1, 0), 1);
        Due.is("the next row", x.at(1, 1), 1);
        Play.rows("wrapped", x, 1, "abcde", "f", "");
        Play.write(x, 1, "\ng");
        Play.rows("an END goes to the next row", x, 1, "abcde", "f", "g");
        Play.write(x, 1, "\nhijklm");
        Play.rows("nothing behind the last row", x, 1, "abcde", "f", "g");
        Due.is("the CURSOR goes on", x.at(1, 0), 1);
        Due.is("from row to row", x.at(1, 1), 4);
        Due.is("WRITTEN counts them", x.pane(1, 8), 15);
        x.cursor(1, 4, 1);
        Play.write(x, 1, "XY");
        Play.rows("written over", x, 1, "abcde", "f   X", "Y");
        x.cursor(1, 4, 0);
        Play.write(x, 1, "E\nz");
        Play.rows("an END behind the last column is one row alone", x, 1, "abcdE", "z   X", "Y");
        x.cursor(1, 99, 0);
        Play.write(x, 1, "!");
        Play.rows("far behind the last column", x, 1, "abcdE", "!   X", "Y");
        x.cursor(1, 3, 2);
        x.style(1, 7);
        x.link(1, 77);
        Play.write(x, 1, " ");
        Due.is("a 32 has a STYLE", x.shown(1, 3, 2, 1), 7);
        Due.is("and a LINK", x.shown(1, 3, 2, 2), 77);
        Due.is("its neighbour has none", x.shown(1, 2, 2, 1), 0);
    }

    private static void signOfGridWithoutRoom() {
        GlkPanes x = new GlkPanes(10, 4);
        x.open(0, 0, 0, TEXT);
        x.open(1, LEFT + NO_BORDER, 0, GRID);
        Play.write(x, 2, "ab");
        Due.is("column 0 is behind the last one", x.at(2, 0), 1);
        Due.is("each sign goes to a next row", x.at(2, 1), 2);
        Play.write(x, 2, "\n");
        Due.is("an END", x.at(2, 0), 0);
        Due.is("an END's row", x.at(2, 1), 3);
        Due.is("WRITTEN", x.pane(2, 8), 3);
        x.arrange(3, LEFT + NO_BORDER, 4, 0);
        Play.rows("nothing was written", x, 2, "", "", "", "");
        Play.write(x, 2, "c");
        Play.rows("now it is", x, 2, "", "", "", "c");
    }

    private static void signsOfTextInTheirStyle() {
        GlkPanes x = new GlkPanes(10, 3);
        x.open(0, 0, 0, TEXT);
        Play.write(x, 1, "a");
        x.style(1, 10);
        Play.write(x, 1, "b");
        x.link(1, 999);
        Play.write(x, 1, " c");
        x.style(1, 0);
        x.link(1, 0);
        Play.write(x, 1, "d");
        int[][] want = {{'a', 0, 0}, {'b', 10, 0}, {' ', 10, 999}, {'c', 10, 999}, {'d', 0, 0}, {32, 0, 0}};
        for (int i = 0; i < want.length; i++) {
            for (int what = 0; what < 3; what++) {
                Due.is("shown(1, " + i + ", 0, " + what + ")", x.shown(1, i, 0, what), want[i][what]);
            }
        }
    }

    private static void textKeeps400Signs() {
        GlkPanes x = new GlkPanes(60, 24);
        x.open(0, 0, 0, TEXT);
        Play.write(x, 1, "first\nsecond\n\n");
        fill(x, 386);
        Due.is("400 signs", x.lines(1), 3 + 7);
        Due.is("the first PARAGRAPH", x.shown(1, 0, 0, 0), 'f');
        Play.write(x, 1, "A");
        Due.is("the first one goes", x.lines(1), 2 + 7);
        Due.is("the second one is first", x.shown(1, 0, 0, 0), 's');
        Play.write(x, 1, "BCDEF");
        Due.is("room for six", x.shown(1, 0, 0, 0), 's');
        Due.is("six more", x.lines(1), 2 + 7);
        Play.write(x, 1, "\n");
        Due.is("the second one goes", x.lines(1), 1 + 7 + 1);
        Due.is("an empty PARAGRAPH is first", x.shown(1, 0, 0, 0), 32);
        Due.is("the next one", x.shown(1, 0, 1, 0), 'x');
        Due.is("WRITTEN", x.pane(1, 8), 407);
    }

    private static void textWithoutEndKeeps400Signs() {
        GlkPanes x = new GlkPanes(40, 10);
        x.open(0, 0, 0, TEXT);
        Play.write(x, 1, "ab");
        fill(x, 398);
        Due.is("400 signs in 40 columns", x.lines(1), 10);
        Due.is("the first sign", x.shown(1, 0, 0, 0), 'a');
        Due.is("the last sign", x.shown(1, 39, 9, 0), 'x');
        Play.write(x, 1, "A");
        Due.is("the first sign goes", x.shown(1, 0, 0, 0), 'b');
        Due.is("the new one is last", x.shown(1, 39, 9, 0), 'A');
        Due.is("as many LINES", x.lines(1), 10);
        Play.write(x, 1, "\n");
        Due.is("an END is one more, too", x.lines(1), 11);
        Play.write(x, 1, "B");
        Due.is("the PARAGRAPH goes with its END", x.lines(1), 1);
        Due.is("B is left", x.shown(1, 0, 0, 0), 'B');
        Due.is("nothing else", x.shown(1, 1, 0, 0), 32);
        GlkPanes y = new GlkPanes(40, 11);
        y.open(0, 0, 0, TEXT);
        fill(y, 399);
        y.ask(1, LINE, 2);
        Play.type(y, 1, "yz");
        Due.is("a LINE takes no sign away before it is written", y.lines(1), 11);
        Due.is("it stands behind", y.shown(1, 0, 10, 0), 'z');
        Due.is("it ends", y.type(1, 10), 1);
        Due.is("399 and 2 and an END, less 2", y.shown(1, 38, 9, 0), 'z');
    }

    private static void fill(GlkPanes x, int signs) {
        for (int i = 0; i < signs; i++) {
            x.sign(1, 'x');
        }
    }

    private static void style() {
        GlkPanes x = Play.allKinds();
        int[] leaves = {1, 2, 4, 6};
        for (int n : leaves) {
            Due.is("at first", x.style(n, 10), 0);
            Due.is("then", x.style(n, 1), 10);
            Due.is("told", x.pane(n, 6), 1);
            Due.is("too many", x.style(n, 11), BAD);
            Due.is("too few", x.style(n, -1), BAD);
            Due.is("as it was", x.style(n, 0), 1);
        }
        int[] pairs = {3, 5, 7};
        for (int n : pairs) {
            Due.is("of a PAIR", x.style(n, 1), NOT);
            Due.is("of a PAIR, BAD", x.style(n, 11), BAD);
        }
        for (int n : Play.NO_PANES) {
            Due.is("style(" + n + ", 1)", x.style(n, 1), BAD);
        }
    }

    private static void link() {
        GlkPanes x = Play.allKinds();
        int[] leaves = {1, 2, 4, 6};
        for (int n : leaves) {
            Due.is("at first", x.link(n, 999), 0);
            Due.is("then", x.link(n, 1), 999);
            Due.is("told", x.pane(n, 7), 1);
            Due.is("too many", x.link(n, 1000), BAD);
            Due.is("too few", x.link(n, -1), BAD);
            Due.is("as it was", x.link(n, 0), 1);
        }
        int[] pairs = {3, 5, 7};
        for (int n : pairs) {
            Due.is("of a PAIR", x.link(n, 1), NOT);
            Due.is("of a PAIR, BAD", x.link(n, 1000), BAD);
        }
        for (int n : Play.NO_PANES) {
            Due.is("link(" + n + ", 1)", x.link(n, 1), BAD);
        }
    }

    private static void cursor() {
        GlkPanes x = new GlkPanes(7, 3);
        x.open(0, 0, 0, GRID);
        int[][] places = {{0, 0, 1}, {6, 2, 1}, {7, 2, 0}, {6, 3, 0}, {99, 99, 0}, {0, 99, 0}, {99, 0, 0}};
        for (int[] p : places) {
            Due.is("cursor(1, " + p[0] + ", " + p[1] + ")", x.cursor(1, p[0], p[1]), p[2]);
            Due.is("its column", x.at(1, 0), p[0]);
            Due.is("its row", x.at(1, 1), p[1]);
        }
        int[][] bad = {{-1, 0}, {0, -1}, {100, 0}, {0, 100}, {Integer.MAX_VALUE, 0}, {0, Integer.MIN_VALUE}};
        for (int[] b : bad) {
            Due.is("cursor(1, " + b[0] + ", " + b[1] + ")", x.cursor(1, b[0], b[1]), BAD);
        }
        Due.is("column as it was", x.at(1, 0), 99);
        x.ask(1, LINE, 5);
        Due.is("with a LINE", x.cursor(1, 1, 1), NOT);
        Due.is("with a LINE, BAD", x.cursor(1, 100, 1), BAD);
        Due.is("column stays", x.at(1, 0), 99);
        GlkPanes y = Play.allKinds();
        int[] others = {1, 3, 4, 5, 6, 7};
        for (int n : others) {
            Due.is("cursor(" + n + ", 0, 0)", y.cursor(n, 0, 0), NOT);
            Due.is("cursor(" + n + ", 0, 100)", y.cursor(n, 0, 100), BAD);
        }
        for (int n : Play.NO_PANES) {
            Due.is("cursor(" + n + ", 0, 0)", y.cursor(n, 0, 0), BAD);
        }
    }

    private static void at() {
        GlkPanes x = Play.allKinds();
        Due.is("column at first", x.at(2, 0), 0);
        Due.is("row at first", x.at(2, 1), 0);
        x.cursor(2, 12, 34);
        Due.is("column", x.at(2, 0), 12);
        Due.is("row", x.at(2, 1), 34);
        int[] axes = {-1, 2, Integer.MAX_VALUE};
        for (int a : axes) {
            Due.is("at(2, " + a + ")", x.at(2, a), BAD);
            Due.is("at(1, " + a + ")", x.at(1, a), BAD);
        }
        int[] others = {1, 3, 4, 6};
        for (int n : others) {
            Due.is("at(" + n + ", 0)", x.at(n, 0), NOT);
        }
        for (int n : Play.NO_PANES) {
            Due.is("at(" + n + ", 0)", x.at(n, 0), BAD);
        }
        x.ask(2, LINE, 4);
        Due.is("with a LINE", x.at(2, 0), 12);
        Play.type(x, 2, "ab");
        Due.is("typing does not move it", x.at(2, 0), 12);
    }

    private static void wipe() {
        GlkPanes x = Play.allKinds();
        Play.write(x, 1, "some text\nmore");
        x.style(2, 5);
        x.link(2, 6);
        Play.write(x, 2, "grid\nmore");
        Due.is("TEXT", x.wipe(1), 1);
        Due.is("no signs", x.lines(1), 0);
        Due.is("WRITTEN stays", x.pane(1, 8), 14);
        Due.is("GRID", x.wipe(2), 1);
        Play.rows("blank", x, 2, "", "", "", "", "");
        Due.is("no STYLE", x.shown(2, 0, 0, 1), 0);
        Due.is("no LINK", x.shown(2, 0, 0, 2), 0);
        Due.is("CURSOR's column", x.at(2, 0), 0);
        Due.is("CURSOR's row", x.at(2, 1), 0);
        Due.is("the STYLE to come stays", x.pane(2, 6), 5);
        Due.is("the LINK to come stays", x.pane(2, 7), 6);
        Play.write(x, 1, "z");
        Due.is("from the begin again", x.shown(1, 0, 0, 0), 'z');
        x.ask(1, LINE, 5);
        x.ask(2, LINE, 5);
        Due.is("TEXT with a LINE", x.wipe(1), NOT);
        Due.is("GRID with a LINE", x.wipe(2), NOT);
        Due.is("signs stay", x.lines(1), 1);
        int[] others = {3, 4, 5, 6, 7};
        for (int n : others) {
            Due.is("wipe(" + n + ")", x.wipe(n), NOT);
        }
        for (int n : Play.NO_PANES) {
            Due.is("wipe(" + n + ")", x.wipe(n), BAD);
        }
    }

    private static void picture() {
        GlkPanes x = Play.allKinds();
        Due.is("at first", x.picture(4, 999), 0);
        Due.is("then", x.picture(4, 1), 999);
        Due.is("too many", x.picture(4, 1000), BAD);
        Due.is("too few", x.picture(4, -1), BAD);
        Due.is("as it was", x.picture(4, 0), 1);
        Due.is("none", x.picture(4, 5), 0);
        int[] others = {1, 2, 3, 5, 6, 7};
        for (int n : others) {
            Due.is("picture(" + n + ", 1)", x.picture(n, 1), NOT);
            Due.is("picture(" + n + ", 1000)", x.picture(n, 1000), BAD);
        }
        for (int n : Play.NO_PANES) {
            Due.is("picture(" + n + ", 1)", x.picture(n, 1), BAD);
        }
    }

    private static void shownRefuses() {
        GlkPanes x = Play.allKinds();
        int[] all = {1, 2, 3, 4, 5, 6, 7};
        for (int n : all) {
            int last = x.pane(n, 1) - 1;
            int low = x.pane(n, 2) - 1;
            int due = n <= 2 ? 32 : NOT;
            Due.is("first place of " + n, x.shown(n, 0, 0, 0), due);
            Due.is("last place of " + n, x.shown(n, last, low, 0), due);
            Due.is("behind its columns: " + n, x.shown(n, last + 1, low, 0), BAD);
            Due.is("behind its rows: " + n, x.shown(n, last, low + 1, 0), BAD);
            Due.is("ahead of its columns: " + n, x.shown(n, -1, 0, 0), BAD);
            Due.is("ahead of its rows: " + n, x.shown(n, 0, -1, 0), BAD);
            Due.is("what -1 of " + n, x.shown(n, 0, 0, -1), BAD);
            Due.is("what 3 of " + n, x.shown(n, 0, 0, 3), BAD);
        }
        for (int n : Play.NO_PANES) {
            Due.is("shown(" + n + ", 0, 0, 0)", x.shown(n, 0, 0, 0), BAD);
        }
        GlkPanes y = new GlkPanes(10, 4);
        y.open(0, 0, 0, TEXT);
        y.open(1, LEFT, 0, GRID);
        Due.is("a GRID without room", y.shown(2, 0, 0, 0), BAD);
    }

    private static void shownRows() {
        GlkPanes x = new GlkPanes(6, 3);
        x.open(0, 0, 0, TEXT);
        Play.rows("without any sign", x, 1, "", "", "");
        Play.write(x, 1, "one");
        Play.rows("the first one at the top", x, 1, "one", "", "");
        Play.write(x, 1, "\ntwo\nthree");
        Play.rows("just as many", x, 1, "one", "two", "three");
        Play.write(x, 1, "\nfour");
        Play.rows("the last ones", x, 1, "two", "three", "four");
        Play.write(x, 1, "\n");
        Play.rows("one PARAGRAPH more", x, 1, "three", "four", "");
        x.resize(6, 5);
        Play.rows("more rows", x, 1, "one", "two", "three", "four", "");
        x.resize(4, 3);
        Play.rows("wrapped again", x, 1, "e", "four", "");
        x.resize(60, 2);
        Play.rows("wide", x, 1, "four", "");
    }

    private static void shownLine() {
        GlkPanes x = new GlkPanes(6, 3);
        x.open(0, 0, 0, TEXT);
        x.style(1, 2);
        x.link(1, 5);
        Play.write(x, 1, "go >");
        x.ask(1, LINE, 40);
        Due.is("an empty LINE", x.lines(1), 1);
        Play.type(x, 1, "abc d");
        Play.rows("wrapped with the signs", x, 1, "go", ">abc d", "");
        Due.is("STYLE of the signs", x.shown(1, 0, 1, 1), 2);
        Due.is("LINK of the signs", x.shown(1, 0, 1, 2), 5);
        Due.is("STYLE of the LINE", x.shown(1, 1, 1, 1), 8);
        Due.is("LINK of the LINE", x.shown(1, 1, 1, 2), 0);
        Play.type(x, 1, "e");
        Play.rows("wrapped again", x, 1, "go", ">abc", "de");
        Due.is("counted", x.lines(1), 3);
        x.type(1, 8);
        x.type(1, 8);
        Play.rows("taken back", x, 1, "go", ">abc", "");
        Due.is("not WRITTEN", x.pane(1, 8), 4);
        Due.is("cancel", x.cancel(1, LINE), 4);
        Play.rows("ECHOED", x, 1, "go", ">abc", "");
        Due.is("with an END", x.lines(1), 3);
        Due.is("STYLE 8", x.shown(1, 4, 1, 1), 8);
        Due.is("LINK 0", x.shown(1, 4, 1, 2), 0);
        Play.write(x, 1, "!");
        Due.is("STYLE as before", x.shown(1, 0, 2, 1), 2);
        Due.is("LINK as before", x.shown(1, 0, 2, 2), 5);
        GlkPanes y = new GlkPanes(6, 3);
        y.open(0, 0, 0, TEXT);
        y.ask(1, LINE, 40);
        Due.is("nothing yet", y.lines(1), 0);
        Play.type(y, 1, "x");
        Due.is("a LINE in an empty TEXT", y.lines(1), 1);
        Due.is("its sign", y.shown(1, 0, 0, 0), 'x');
        y.echo(1, false);
        y.type(1, 10);
        Due.is("gone without ECHO", y.lines(1), 0);
        Due.is("not shown any more", y.shown(1, 0, 0, 0), 32);
    }

    private static void lineInGrid() {
        GlkPanes x = new GlkPanes(6, 3);
        x.open(0, 0, 0, GRID);
        x.link(1, 3);
        Play.write(x, 1, "abcdef");
        x.cursor(1, 3, 0);
        x.ask(1, LINE, 40);
        Play.type(x, 1, "12");
        Play.rows("over what is written", x, 1, "abc12f", "", "");
        Due.is("STYLE", x.shown(1, 3, 0, 1), 8);
        Due.is("LINK", x.shown(1, 3, 0, 2), 0);
        Due.is("LINK behind it", x.shown(1, 5, 0, 2), 3);
        Play.type(x, 1, "3456");
        Play.rows("as far as its row goes", x, 1, "abc123", "", "");
        x.resize(8, 3);
        Play.rows("in a wider row", x, 1, "abc12345", "", "");
        for (int i = 0; i < 5; i++) {
            x.type(1, 8);
        }
        Play.rows("what was below is there again", x, 1, "abc1ef", "", "");
        Due.is("cancel", x.cancel(1, LINE), 1);
        Play.rows("ECHOED", x, 1, "abc1ef", "", "");
        Due.is("STYLE 8", x.shown(1, 3, 0, 1), 8);
        Due.is("LINK 0", x.shown(1, 3, 0, 2), 0);
        Due.is("CURSOR's column", x.at(1, 0), 0);
        Due.is("CURSOR's row", x.at(1, 1), 1);
        x.cursor(1, 7, 1);
        x.ask(1, LINE, 40);
        Play.type(x, 1, "XYZ");
        Due.is("end", x.type(1, 10), 1);
        Play.rows("not wrapped", x, 1, "abc1ef", "       X", "");
        Due.is("all its signs, and one more", x.pane(1, 8), 6 + 2 + 4);
        Due.is("the next row", x.at(1, 1), 2);
        x.cursor(1, 8, 1);
        x.ask(1, LINE, 40);
        Play.type(x, 1, "Q");
        Play.rows("behind the last column", x, 1, "abc1ef", "       X", "");
        x.type(1, 10);
        Play.rows("nothing there", x, 1, "abc1ef", "       X", "");
        Due.is("from the CURSOR's own row", x.at(1, 1), 2);
        x.cursor(1, 0, 50);
        x.ask(1, LINE, 40);
        Play.type(x, 1, "Q");
        x.type(1, 10);
        Due.is("in a row behind the last one", x.at(1, 1), 51);
        x.cursor(1, 0, 2);
        x.echo(1, false);
        x.ask(1, LINE, 40);
        Play.type(x, 1, "no");
        Play.rows("shown", x, 1, "abc1ef", "       X", "no");
        x.type(1, 10);
        Play.rows("not ECHOED", x, 1, "abc1ef", "       X", "");
        Due.is("the CURSOR stays", x.at(1, 1), 2);
        Due.is("WRITTEN as before", x.pane(1, 8), 6 + 2 + 4 + 2 + 2);
    }

    private static void linesWrap() {
        Play.wrapped("", 5);
        Play.wrapped("a", 5, "a");
        Play.wrapped("\n", 5, "", "");
        Play.wrapped("\n\n", 5, "", "", "");
        Play.wrapped("a\n", 5, "a", "");
        Play.wrapped("\na", 5, "", "a");
        Play.wrapped("a\n\nb", 5, "a", "", "b");
        Play.wrapped("abcde", 5, "abcde");
        Play.wrapped("abcdef", 5, "abcde", "f");
        Play.wrapped("abcdefghijk", 5, "abcde", "fghij", "k");
        Play.wrapped("abcdefghij", 5, "abcde", "fghij");
        Play.wrapped("ab cd", 5, "ab cd");
        Play.wrapped("ab cd\nef", 5, "ab cd", "ef");
        Play.wrapped("ab cd\n", 5, "ab cd", "");
        Play.wrapped("ab cde", 5, "ab", "cde");
        Play.wrapped("abcde fg", 5, "abcde", "fg");
        Play.wrapped("abcd efg", 5, "abcd", "efg");
        Play.wrapped("abcdef gh", 5, "abcde", "f gh");
        Play.wrapped("a b c d e f", 5, "a b c", "d e f");
        Play.wrapped("abcde ", 5, "abcde");
        Play.wrapped("abcde  ", 5, "abcde");
        Play.wrapped("abc   def", 5, "abc ", "def");
        Play.wrapped("ab     cd", 5, "ab   ", "cd");
        Play.wrapped("abcde     f", 5, "abcde", "f");
        Play.wrapped("      ", 5, "     ");
        Play.wrapped("       a", 5, "     ", "a");
        Play.wrapped(" abcdef", 5, "", "abcde", "f");
        Play.wrapped("  abcdef", 5, " ", "abcde", "f");
        Play.wrapped("abcde \nf", 5, "abcde", "f");
        Play.wrapped("abcde \n", 5, "abcde", "");
        Play.wrapped("abcde  \n\nf", 5, "abcde", "", "f");
        Play.wrapped("ab ", 5, "ab ");
        Play.wrapped("abc", 1, "a", "b", "c");
        Play.wrapped("a b", 1, "a", "b");
        Play.wrapped(" a", 1, "", "a");
        Play.wrapped("a  b", 1, "a", "b");
        Play.wrapped("a\nb", 1, "a", "b");
        Play.wrapped("the lamp is lit", 8, "the lamp", "is lit");
        Play.wrapped("a-b c_d", 4, "a-b", "c_d");
    }

    private static void linesCount() {
        GlkPanes x = Play.allKinds();
        Due.is("none", x.lines(1), 0);
        int[] others = {2, 3, 4, 5, 6, 7};
        for (int n : others) {
            Due.is("lines(" + n + ")", x.lines(n), NOT);
        }
        for (int n : Play.NO_PANES) {
            Due.is("lines(" + n + ")", x.lines(n), BAD);
        }
        GlkPanes y = new GlkPanes(10, 4);
        y.open(0, 0, 0, TEXT);
        for (int i = 0; i < 399; i++) {
            y.sign(1, 10);
        }
        Due.is("also those that are not shown", y.lines(1), 400);
        y.sign(1, 10);
        Due.is("400 ENDS", y.lines(1), 401);
        y.sign(1, 10);
        Due.is("not more", y.lines(1), 401);
        y.open(1, LEFT + SHARE, 100, GRID);
        Due.is("no room", y.lines(1), 0);
        y.close(2);
        Due.is("room again", y.lines(1), 401);
        y.ask(1, LINE, 40);
        y.resize(4, 4);
        for (int i = 0; i < 40; i++) {
            y.type(1, 'm');
        }
        Due.is("with a LINE", y.lines(1), 400 + 10);
        y.open(1, LEFT, 2, GRID);
        Due.is("one column", y.pane(1, 1), 1);
        Due.is("most LINES of all", y.lines(1), 400 + 40);
        Due.is("the last one is shown", y.shown(1, 0, 3, 0), 'm');
    }

    private static void drawn() {
        GlkPanes x = new GlkPanes(12, 5);
        Play.screen("without a ROOT", x, "            ", "            ", "            ", "            ", "            ");
        x.open(0, 0, 0, TEXT);
        Play.write(x, 1, "You see");
        x.open(1, ABOVE, 1, GRID);
        Play.write(x, 2, "Hall");
        x.open(1, RIGHT, 32, PICTURE);
        Play.screen("PICTURE 0", x, "Hall        ", "------------", "You see|    ", "       |    ", "       |    ");
        x.picture(4, 1);
        Play.screen("PICTURE 1", x, "Hall        ", "------------", "You see|####", "       |####", "       |####");
        x.picture(4, 0);
        x.ask(1, LINE, 9);
        Play.type(x, 1, "a b");
        x.open(4, BELOW + SHARE + NO_BORDER, 34, BLANK);
        x.picture(4, 7);
        Play.screen("with a LINE", x, "Hall        ", "------------", "You    |####", "seea b |####", "       |    ");
        int[][] bad = {{-1, 0}, {0, -1}, {12, 0}, {0, 5}, {Integer.MAX_VALUE, 0}, {0, Integer.MIN_VALUE}};
        for (int[] b : bad) {
            Due.is("drawn(" + b[0] + ", " + b[1] + ")", x.drawn(b[0], b[1]), BAD);
            Due.is("under(" + b[0] + ", " + b[1] + ")", x.under(b[0], b[1]), BAD);
        }
    }

    private static void under() {
        GlkPanes x = new GlkPanes(12, 5);
        Due.is("no ROOT", x.under(11, 4), NONE);
        Due.is("no ROOT, BAD", x.under(12, 4), BAD);
        x.open(0, 0, 0, TEXT);
        x.open(1, ABOVE, 1, GRID);
        x.open(1, RIGHT + NO_BORDER, 4, TEXT);
        x.open(4, BELOW + SHARE, 50, BLANK);
        int[][] want = {{2, 2, 2}, {NONE, NONE, NONE}, {1, 1, 4}, {1, 1, NONE}, {1, 1, 6}};
        for (int y = 0; y < 5; y++) {
            Due.is("under(0, " + y + ")", x.under(0, y), want[y][0]);
            Due.is("under(7, " + y + ")", x.under(7, y), want[y][1]);
            Due.is("under(8, " + y + ")", x.under(8, y), want[y][2]);
            Due.is("under(11, " + y + ")", x.under(11, y), want[y][2]);
        }
    }
}
