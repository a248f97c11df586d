/** Promises 1 to 8, sentence by sentence: a new object, and the calls for panes. */
public final class PanePromisesTest implements Terms {
    public static void main(String[] args) {
        Sentences.run(PanePromisesTest.class);
    }

    @Says(promise = 1, value = "W and H,")
    static void aNewObjectHasItsSize() {
        int[][] sizes = {{4, 2, 4, 2}, {60, 24, 60, 24}, {33, 7, 33, 7}, {3, 1, 4, 2}, {61, 25, 60, 24},
            {LEAST_INT, MOST_INT, 4, 24}, {MOST_INT, LEAST_INT, 60, 2}};
        for (int[] s : sizes) {
            GlkPanes x = new GlkPanes(s[0], s[1]);
            Due.is("W of " + s[0], x.count(W), s[2]);
            Due.is("H of " + s[1], x.count(H), s[3]);
        }
    }

    @Says(promise = 1, value = "no panes,")
    static void aNewObjectHasNoPanes() {
        GlkPanes x = new GlkPanes(20, 9);
        Due.is("ROOT", x.root(), NONE);
        Due.is("open", x.count(OPEN), 0);
        Due.is("no PAIRS", x.count(LEAVES), 0);
        Due.is("in all", x.count(MADE), 0);
        for (int n = 0; n <= 61; n++) {
            Due.is("pane " + n, x.pane(n, KIND_OF), BAD);
        }
    }

    @Says(promise = 1, value = "no EVENTS.")
    static void aNewObjectHasNoEvents() {
        GlkPanes x = new GlkPanes(20, 9);
        Due.is("waiting", x.count(WAITING), 0);
        Due.is("take()", x.take(), NONE);
        Due.is("event(0)", x.event(0), NONE);
    }

    @Says(promise = 2, value = {"A pane is split", ": the new pane."})
    static void openTellsTheNewPane() {
        GlkPanes x = Play.root(40, 20, TEXT);
        Due.is("of a TEXT", x.open(1, LEFT, 5, GRID), 2);
        Due.is("of a GRID", x.open(2, LEFT, 5, PICTURE), 4);
        Due.is("of a PICTURE", x.open(4, LEFT + SHARE, 5, BLANK), 6);
        Due.is("of a BLANK", x.open(6, BELOW, 5, TEXT), 8);
        Due.is("of a PAIR", x.open(3, BELOW, 5, TEXT), 10);
        Due.is("it is open", x.pane(10, KIND_OF), TEXT);
    }

    @Says(promise = 2, value = "(0: there is no ROOT, the new one is that;")
    static void openOfZeroMakesTheRoot() {
        for (int kind = BLANK; kind <= PICTURE; kind++) {
            GlkPanes x = new GlkPanes(20, 9);
            Due.is("open(0, 0, 0, " + kind + ")", x.open(0, 0, 0, kind), 1);
            Due.is("the ROOT", x.root(), 1);
            Due.is("its KIND", x.pane(1, KIND_OF), kind);
            Due.is("no PAIR", x.count(OPEN), 1);
        }
    }

    @Says(promise = 2, value = "METHOD and SIZE do not matter with 0)")
    static void methodAndSizeOfARootDoNotMatter() {
        int[] any = {LEAST_INT, -1, 0, 4, 15, 16, 101, 1000, MOST_INT};
        for (int a : any) {
            Due.is("METHOD " + a, new GlkPanes(20, 9).open(0, a, 0, TEXT), 1);
            Due.is("SIZE " + a, new GlkPanes(20, 9).open(0, 0, a, TEXT), 1);
            Due.is("both " + a, new GlkPanes(20, 9).open(0, a, a, TEXT), 1);
        }
    }

    @Says(promise = 2, value = "BAD: no such pane open,")
    static void openOfNoOpenPaneIsBad() {
        for (int n : Play.NOT_OPEN) {
            if (n != 0) {
                Due.is("open(" + n + ", ..)", Play.someClosed().open(n, LEFT, 5, TEXT), BAD);
            }
        }
        Due.is("without a ROOT", new GlkPanes(20, 9).open(1, LEFT, 5, TEXT), BAD);
    }

    @Says(promise = 2, value = "METHOD not 0 .. 15,")
    static void openByNoMethodIsBad() {
        int[] bad = {LEAST_INT, -1, 16, 17, MOST_INT};
        for (int m : bad) {
            Due.is("METHOD " + m, Play.root(20, 9, TEXT).open(1, m, 5, TEXT), BAD);
        }
        for (int m = 0; m <= 15; m++) {
            Due.is("METHOD " + m, Play.root(20, 9, TEXT).open(1, m, 5, TEXT), 2);
        }
    }

    @Says(promise = 2, value = "SIZE not 0 .. 999")
    static void openFixedWithNoSizeIsBad() {
        int[] bad = {LEAST_INT, -1, 1000, 1001, MOST_INT};
        int[] well = {0, 1, 100, 101, 998, 999};
        int[] fixed = {0, 1, 2, 3, 8, 9, 10, 11};
        for (int m : fixed) {
            for (int s : bad) {
                Due.is("SIZE " + s + " by " + m, Play.root(20, 9, TEXT).open(1, m, s, TEXT), BAD);
            }
            for (int s : well) {
                Due.is("SIZE " + s + " by " + m, Play.root(20, 9, TEXT).open(1, m, s, TEXT), 2);
            }
        }
    }

    @Says(promise = 2, value = "(by SHARE 0 .. 100),")
    static void openByShareWithNoSizeIsBad() {
        int[] bad = {LEAST_INT, -1, 101, 999, 1000, MOST_INT};
        int[] well = {0, 1, 99, 100};
        int[] share = {4, 5, 6, 7, 12, 13, 14, 15};
        for (int m : share) {
            for (int s : bad) {
                Due.is("SIZE " + s + " by " + m, Play.root(20, 9, TEXT).open(1, m, s, TEXT), BAD);
            }
            for (int s : well) {
                Due.is("SIZE " + s + " by " + m, Play.root(20, 9, TEXT).open(1, m, s, TEXT), 2);
            }
        }
    }

    @Says(promise = 2, value = "KIND not 0 .. 3;")
    static void openOfNoKindIsBad() {
        int[] bad = {LEAST_INT, -1, 4, 5, MOST_INT};
        for (int k : bad) {
            Due.is("split to KIND " + k, Play.root(20, 9, TEXT).open(1, LEFT + SHARE, 5, k), BAD);
            Due.is("ROOT of KIND " + k, new GlkPanes(20, 9).open(0, 0, 0, k), BAD);
        }
        for (int k = BLANK; k <= PICTURE; k++) {
            Due.is("split to KIND " + k, Play.root(20, 9, TEXT).open(1, LEFT + SHARE, 5, k), 2);
        }
    }

    @Says(promise = 2, value = "NOT: 0 and there is a ROOT,")
    static void aSecondRootCanNotBe() {
        GlkPanes x = Play.root(20, 9, TEXT);
        Due.is("a second one", x.open(0, 0, 0, TEXT), NOT);
        Due.is("METHOD and SIZE do not matter", x.open(0, 99, -1, BLANK), NOT);
        x.open(1, LEFT, 5, TEXT);
        Due.is("beside a PAIR", x.open(0, 0, 0, TEXT), NOT);
        x.close(3);
        Due.is("with all closed", x.open(0, 0, 0, TEXT), 4);
    }

    @Says(promise = 2, value = "or FIXED and the KIND is BLANK")
    static void aFixedBlankCanNotBe() {
        for (int m = 0; m <= 15; m++) {
            GlkPanes x = Play.root(20, 9, TEXT);
            Due.is("BLANK by " + m, x.open(1, m, 50, BLANK), m / 4 % 2 == 0 ? NOT : 2);
        }
    }

    @Says(promise = 2, value = "(not of a ROOT);")
    static void aRootMayBeBlankByAnyMethod() {
        for (int m = 0; m <= 15; m++) {
            Due.is("BLANK ROOT by " + m, new GlkPanes(20, 9).open(0, m, 50, BLANK), 1);
        }
    }

    @Says(promise = 2, value = "FULL.")
    static void openOfAThirteenthPaneIsFull() {
        GlkPanes x = Play.root(60, 24, TEXT);
        for (int n = 2; n <= 22; n += 2) {
            Due.is("pane " + n, x.open(n == 2 ? 1 : n - 2, n / 2 % 4 + SHARE, 50, n / 2 % 4), n);
        }
        for (int k = BLANK; k <= PICTURE; k++) {
            Due.is("a 13th of KIND " + k, x.open(1, SHARE, 50, k), FULL);
        }
    }

    @Says(promise = 2, value = "FULL.")
    static void openOfA61stPaneIsFull() {
        GlkPanes x = new GlkPanes(60, 24);
        for (int n = 1; n <= 60; n++) {
            Due.is("ROOT " + n, x.open(0, 0, 0, GRID), n);
            x.close(n);
        }
        Due.is("a 61st", x.open(0, 0, 0, GRID), FULL);
    }

    @Says(promise = 3, value = "How much was WRITTEN to a pane, which is closed.")
    static void closeTellsHowMuchWasWritten() {
        GlkPanes x = Play.someClosed();
        Play.write(x, 1, "ab\n");
        Play.write(x, 2, "abcde");
        x.ask(2, LINE, 5);
        Play.type(x, 2, "xy");
        x.type(2, END);
        Due.is("TEXT", x.close(1), 3);
        Due.is("GRID, with what was ECHOED", x.close(2), 8);
        Due.is("PICTURE", x.close(4), 0);
        Due.is("BLANK", x.close(6), 0);
        Due.is("none is open", x.count(OPEN), 0);
    }

    @Says(promise = 3, value = "How much was WRITTEN to a pane, which is closed.")
    static void closeOfAPairTellsItsOwnWritten() {
        GlkPanes x = Play.split(20, 9, LEFT, 5, GRID);
        Play.write(x, 1, "abc");
        Play.write(x, 2, "de");
        Due.is("nothing came to the PAIR", x.close(3), 0);
        Due.is("none is open", x.count(OPEN), 0);
    }

    @Says(promise = 3, value = "BAD.")
    static void closeOfNoOpenPaneIsBad() {
        GlkPanes x = Play.someClosed();
        for (int n : Play.NOT_OPEN) {
            Due.is("close(" + n + ")", x.close(n), BAD);
        }
        Due.is("all are open still", x.count(OPEN), 7);
        x.close(6);
        Due.is("once more", x.close(6), BAD);
        Due.is("its PAIR", x.close(7), BAD);
        Due.is("without a ROOT", new GlkPanes(20, 9).close(1), BAD);
    }

    @Says(promise = 4, value = "A PAIR is REARRANGED: 1.")
    static void arrangeTellsOne() {
        GlkPanes x = Play.split(20, 9, LEFT, 5, GRID);
        Due.is("as it was", x.arrange(3, LEFT, 5, 0), 1);
        Due.is("another SIZE", x.arrange(3, LEFT, 6, 0), 1);
        Due.is("the other side", x.arrange(3, RIGHT, 6, 0), 1);
        Due.is("another KEY", x.arrange(3, RIGHT, 6, 1), 1);
        Due.is("by SHARE, without a BORDER", x.arrange(3, RIGHT + SHARE + NO_BORDER, 100, 2), 1);
        Due.is("METHOD", x.pair(3, METHOD_OF), RIGHT + SHARE + NO_BORDER);
        Due.is("SIZE", x.pair(3, SIZE_OF), 100);
        Due.is("KEY", x.pair(3, KEY_OF), 2);
        Play.room("its room", x, 2, 20, 9, 0, 0);
    }

    @Says(promise = 4, value = "BAD: as of open(),")
    static void arrangeOfNoOpenPairIsBad() {
        GlkPanes x = Play.someClosed();
        for (int n : Play.NOT_OPEN) {
            Due.is("arrange(" + n + ", ..)", x.arrange(n, LEFT, 5, 0), BAD);
        }
        int[] leaves = {1, 2, 4, 6};
        for (int n : leaves) {
            Due.is("no PAIR: " + n, x.arrange(n, LEFT, 5, 0), BAD);
        }
    }

    @Says(promise = 4, value = "BAD: as of open(),")
    static void arrangeByNoMethodIsBad() {
        GlkPanes x = Play.split(20, 9, LEFT, 5, GRID);
        int[] bad = {LEAST_INT, -1, 16, 17, MOST_INT};
        for (int m : bad) {
            Due.is("METHOD " + m, x.arrange(3, m, 5, 0), BAD);
        }
        Due.is("METHOD as it was", x.pair(3, METHOD_OF), LEFT);
    }

    @Says(promise = 4, value = "BAD: as of open(),")
    static void arrangeWithNoSizeIsBad() {
        GlkPanes x = Play.split(20, 9, LEFT, 5, GRID);
        int[] badFixed = {LEAST_INT, -1, 1000, MOST_INT};
        int[] badShare = {LEAST_INT, -1, 101, 999, MOST_INT};
        for (int s : badFixed) {
            Due.is("FIXED " + s, x.arrange(3, LEFT, s, 0), BAD);
        }
        for (int s : badShare) {
            Due.is("by SHARE " + s, x.arrange(3, LEFT + SHARE, s, 0), BAD);
        }
        Due.is("SIZE as it was", x.pair(3, SIZE_OF), 5);
        Due.is("the most FIXED", x.arrange(3, LEFT, 999, 0), 1);
        Due.is("the least FIXED", x.arrange(3, LEFT, 0, 0), 1);
        Due.is("the most by SHARE", x.arrange(3, LEFT + SHARE, 100, 0), 1);
        Due.is("the least by SHARE", x.arrange(3, LEFT + SHARE, 0, 0), 1);
    }

    @Says(promise = 4, value = "or the KEY;")
    static void arrangeWithNoKeyBelowIsBad() {
        GlkPanes x = Play.someClosed();
        for (int n : Play.NOT_OPEN) {
            if (n != 0) {
                Due.is("not open: " + n, x.arrange(3, LEFT, 5, n), BAD);
            }
        }
        Due.is("a PAIR below it", x.arrange(3, LEFT, 5, 5), BAD);
        Due.is("itself", x.arrange(3, LEFT, 5, 3), BAD);
        Due.is("a pane that is not below it", x.arrange(5, ABOVE, 5, 2), BAD);
        Due.is("a PAIR above it", x.arrange(5, ABOVE, 5, 3), BAD);
        Due.is("KEY as it was", x.pair(3, KEY_OF), 2);
    }

    @Says(promise = 4, value = "NOT: not along the same,")
    static void arrangeAlongTheOtherCanNotBe() {
        for (int old = 0; old <= 15; old++) {
            for (int m = 0; m <= 15; m++) {
                GlkPanes x = Play.split(20, 9, old, 5, GRID);
                boolean same = old % 4 / 2 == m % 4 / 2;
                Due.is("from " + old + " to " + m, x.arrange(3, m, 7, 0), same ? 1 : NOT);
                Due.is("METHOD then", x.pair(3, METHOD_OF), same ? m : old);
                Due.is("SIZE then", x.pair(3, SIZE_OF), same ? 7 : 5);
            }
        }
    }

    @Says(promise = 4, value = "or FIXED and the KEY that it has then is BLANK.")
    static void arrangeFixedByABlankCanNotBe() {
        GlkPanes x = Play.split(20, 9, LEFT, 5, GRID);
        x.open(1, BELOW + SHARE, 50, BLANK);
        Due.is("to a BLANK", x.arrange(3, LEFT, 5, 4), NOT);
        Due.is("by SHARE it can", x.arrange(3, LEFT + SHARE, 5, 4), 1);
        Due.is("FIXED by the KEY that it has", x.arrange(3, LEFT, 5, 0), NOT);
        Due.is("FIXED by the same", x.arrange(3, LEFT, 5, 4), NOT);
        Due.is("FIXED without a BORDER", x.arrange(3, RIGHT + NO_BORDER, 5, 0), NOT);
        Due.is("FIXED by another KEY", x.arrange(3, LEFT, 5, 1), 1);
    }

    @Says(promise = 4, value = "or FIXED and the KEY that it has then is BLANK.")
    static void arrangeFixedWithoutAKeyCanBe() {
        GlkPanes x = Play.split(20, 9, LEFT + SHARE, 50, BLANK);
        x.open(2, BELOW + SHARE, 50, BLANK);
        x.close(2);
        Due.is("no KEY", x.pair(3, KEY_OF), NONE);
        Due.is("FIXED", x.arrange(3, LEFT, 5, 0), 1);
        Play.room("nothing for its side", x, 4, 0, 0, 0, 0);
    }

    @Says(promise = 5, value = "Of a pane: what = 0 KIND, 1 columns, 2 rows, 3 x, 4 y")
    static void paneTellsKindAndRoom() {
        int[][] due = {{1, TEXT, 20, 8, 0, 0}, {2, GRID, 20, 5, 21, 0}, {3, PAIR, 41, 12, 0, 0},
            {4, PICTURE, 20, 3, 0, 9}, {5, PAIR, 20, 12, 0, 0}, {6, BLANK, 20, 6, 21, 6}, {7, PAIR, 20, 12, 21, 0}};
        GlkPanes x = Play.allKinds();
        for (int[] d : due) {
            Due.is("KIND of " + d[0], x.pane(d[0], 0), d[1]);
            Due.is("columns of " + d[0], x.pane(d[0], 1), d[2]);
            Due.is("rows of " + d[0], x.pane(d[0], 2), d[3]);
            Due.is("x of " + d[0], x.pane(d[0], 3), d[4]);
            Due.is("y of " + d[0], x.pane(d[0], 4), d[5]);
        }
    }

    @Says(promise = 5, value = "(0, 0 of one that has no room),")
    static void paneTellsZeroOfOneWithoutRoom() {
        int[] sides = {LEFT, RIGHT, ABOVE, BELOW};
        for (int side : sides) {
            GlkPanes x = Play.split(20, 9, side, 0, GRID);
            Due.is("x of none by " + side, x.pane(2, X), 0);
            Due.is("y of none by " + side, x.pane(2, Y), 0);
            GlkPanes y = Play.split(20, 9, side, 999, GRID);
            Due.is("x of the other by " + side, y.pane(1, X), 0);
            Due.is("y of the other by " + side, y.pane(1, Y), 0);
        }
    }

    @Says(promise = 5, value = "5 PARENT (0 of the ROOT),")
    static void paneTellsTheParent() {
        GlkPanes x = Play.allKinds();
        int[] due = {5, 7, 0, 5, 3, 7, 3};
        for (int n = 1; n <= 7; n++) {
            Due.is("PARENT of " + n, x.pane(n, 5), due[n - 1]);
        }
        Due.is("of a ROOT that is no PAIR", Play.root(20, 9, TEXT).pane(1, 5), 0);
        x.close(7);
        Due.is("of what is the ROOT then", x.pane(5, 5), 0);
    }

    @Says(promise = 5, value = "6 STYLE, 7 LINK, 8 WRITTEN,")
    static void paneTellsStyleLinkAndWritten() {
        GlkPanes x = Play.allKinds();
        for (int n = 1; n <= 7; n++) {
            for (int what = 6; what <= 8; what++) {
                Due.is("at first: " + what + " of " + n, x.pane(n, what), 0);
            }
        }
        int[] leaves = {1, 2, 4, 6};
        for (int n : leaves) {
            x.style(n, 10);
            x.link(n, 999);
            Due.is("STYLE of " + n, x.pane(n, 6), 10);
            Due.is("LINK of " + n, x.pane(n, 7), 999);
        }
        Play.write(x, 1, "ab\n");
        Due.is("WRITTEN", x.pane(1, 8), 3);
    }

    /** Those that can't be asked for a LINE are as at first. */
    @Says(promise = 5, value = "9 whether it ECHOES.")
    static void paneTellsWhetherItEchoes() {
        GlkPanes x = Play.allKinds();
        for (int n = 1; n <= 7; n++) {
            Due.is("at first: " + n, x.pane(n, 9), 1);
        }
        for (int n = 1; n <= 2; n++) {
            x.echo(n, false);
            Due.is("no more: " + n, x.pane(n, 9), 0);
            x.echo(n, true);
            Due.is("again: " + n, x.pane(n, 9), 1);
        }
    }

    @Says(promise = 5, value = "BAD.")
    static void paneOfNoOpenPaneOrNoFactIsBad() {
        GlkPanes x = Play.someClosed();
        for (int n : Play.NOT_OPEN) {
            for (int what = 0; what <= 9; what++) {
                Due.is("pane(" + n + ", " + what + ")", x.pane(n, what), BAD);
            }
        }
        int[] facts = {LEAST_INT, -1, 10, 11, MOST_INT};
        for (int what : facts) {
            for (int n = 1; n <= 7; n++) {
                Due.is("pane(" + n + ", " + what + ")", x.pane(n, what), BAD);
            }
        }
    }

    @Says(promise = 6, value = "Of a PAIR: what = 0 METHOD, 1 SIZE, 2 KEY")
    static void pairTellsMethodSizeAndKey() {
        for (int m = 0; m <= 15; m++) {
            GlkPanes x = Play.split(20, 9, m, m + 10, GRID);
            Due.is("METHOD", x.pair(3, 0), m);
            Due.is("SIZE", x.pair(3, 1), m + 10);
            Due.is("KEY", x.pair(3, 2), 2);
        }
    }

    @Says(promise = 6, value = "(NONE),")
    static void pairTellsNoneWithoutAKey() {
        GlkPanes x = Play.split(20, 9, LEFT, 5, GRID);
        x.open(2, BELOW, 5, TEXT);
        x.close(2);
        Due.is("KEY", x.pair(3, 2), NONE);
        Due.is("METHOD stays", x.pair(3, 0), LEFT);
        Due.is("SIZE stays", x.pair(3, 1), 5);
    }

    @Says(promise = 6, value = "3 its left or upper side, 4 the other one.")
    static void pairTellsItsSides() {
        for (int m = 0; m <= 15; m++) {
            GlkPanes x = Play.split(20, 9, m, 5, GRID);
            Due.is("left or upper side by " + m, x.pair(3, 3), m % 2 == 0 ? 2 : 1);
            Due.is("the other one by " + m, x.pair(3, 4), m % 2 == 0 ? 1 : 2);
        }
    }

    @Says(promise = 6, value = "BAD: also no PAIR.")
    static void pairOfNoPairIsBad() {
        GlkPanes x = Play.someClosed();
        int[] leaves = {1, 2, 4, 6};
        for (int what = 0; what <= 4; what++) {
            for (int n : leaves) {
                Due.is("pair(" + n + ", " + what + ")", x.pair(n, what), BAD);
            }
            for (int n : Play.NOT_OPEN) {
                Due.is("pair(" + n + ", " + what + ")", x.pair(n, what), BAD);
            }
        }
        int[] facts = {LEAST_INT, -1, 5, 6, MOST_INT};
        for (int what : facts) {
            Due.is("pair(3, " + what + ")", x.pair(3, what), BAD);
        }
    }

    @Says(promise = 7, value = "The ROOT;")
    static void rootTellsTheRoot() {
        GlkPanes x = Play.root(20, 9, BLANK);
        Due.is("the first one", x.root(), 1);
        x.open(1, LEFT, 5, GRID);
        Due.is("its PAIR", x.root(), 3);
        x.open(2, LEFT, 5, GRID);
        Due.is("a PAIR below is not", x.root(), 3);
        x.close(1);
        Due.is("the PAIR that is left", x.root(), 5);
        x.close(4);
        Due.is("the one that is left", x.root(), 2);
    }

    @Says(promise = 7, value = "NONE.")
    static void rootTellsNoneWithoutARoot() {
        GlkPanes x = new GlkPanes(20, 9);
        Due.is("at first", x.root(), NONE);
        x.open(0, 0, 0, TEXT);
        x.close(1);
        Due.is("with all closed", x.root(), NONE);
    }

    @Says(promise = 8, value = "THE SCREEN has another size")
    static void resizeGivesTheScreenAnotherSize() {
        GlkPanes x = Play.split(20, 9, RIGHT, 5, GRID);
        x.resize(30, 12);
        Due.is("W", x.count(W), 30);
        Due.is("H", x.count(H), 12);
        Play.room("its panes have room by it", x, 1, 24, 12, 0, 0);
        Play.room("also the other", x, 2, 5, 12, 25, 0);
        Due.is("its last place", x.under(29, 11), 2);
        Due.is("no place more", x.under(30, 11), BAD);
    }

    @Says(promise = 8, value = "(as the nearest):")
    static void resizeIsAsTheNearest() {
        int[][] sizes = {{3, 1, 4, 2}, {4, 2, 4, 2}, {60, 24, 60, 24}, {61, 25, 60, 24}, {-1, 99, 4, 24},
            {LEAST_INT, MOST_INT, 4, 24}, {MOST_INT, LEAST_INT, 60, 2}};
        for (int[] s : sizes) {
            GlkPanes x = Play.root(20, 9, TEXT);
            x.resize(s[0], s[1]);
            Due.is("W of " + s[0], x.count(W), s[2]);
            Due.is("H of " + s[1], x.count(H), s[3]);
            Play.room("the ROOT", x, 1, s[2], s[3], 0, 0);
        }
    }

    @Says(promise = 8, value = "EVENT 4;")
    static void resizeMakesAnEvent() {
        GlkPanes x = new GlkPanes(20, 9);
        x.resize(30, 12);
        Due.is("one waits", x.count(WAITING), 1);
        Play.event("with W and H", x, 4, 0, 30, 12);
        x.resize(99, 0);
        Play.event("with the nearest", x, 4, 0, 60, 2);
    }

    /** The document does not say that a size must be another one for its EVENT. */
    @Says(promise = 8, value = "EVENT 4;")
    static void resizeToTheSameSizeMakesAnEventToo() {
        GlkPanes x = Play.root(20, 9, TEXT);
        Due.is("no pane has another size", x.resize(20, 9), 0);
        Play.event("the same", x, 4, 0, 20, 9);
    }

    private static final String HOW_MANY = "how many open panes have another size or place (PAIRS, too).";

    @Says(promise = 8, value = HOW_MANY)
    static void resizeCountsPanesOfAnotherSize() {
        Due.is("no panes", new GlkPanes(20, 9).resize(30, 12), 0);
        Due.is("a ROOT", Play.root(20, 9, TEXT).resize(30, 12), 1);
        Due.is("a ROOT with other rows alone", Play.root(20, 9, TEXT).resize(20, 10), 1);
        Due.is("a PAIR with its sides", Play.split(20, 9, LEFT, 5, GRID).resize(20, 10), 3);
        Due.is("2 has the columns that it had", Play.split(20, 9, LEFT, 5, GRID).resize(30, 9), 2);
        Due.is("the same size", Play.split(20, 9, LEFT, 5, GRID).resize(20, 9), 0);
    }

    @Says(promise = 8, value = HOW_MANY)
    static void resizeCountsPanesOfAnotherPlace() {
        Due.is("2 has another x", Play.split(20, 9, RIGHT, 5, GRID).resize(30, 9), 3);
        Due.is("2 has another y", Play.split(20, 9, BELOW, 5, GRID).resize(20, 12), 3);
    }

    @Says(promise = 8, value = HOW_MANY)
    static void resizeCountsNoClosedPanesAndNoneWithoutRoom() {
        GlkPanes x = Play.split(20, 9, LEFT, 5, GRID);
        x.close(2);
        Due.is("the one that is open", x.resize(30, 12), 1);
        GlkPanes y = Play.split(20, 9, LEFT, 0, GRID);
        Due.is("2 has no room, as before", y.resize(30, 12), 2);
        GlkPanes z = Play.split(20, 9, LEFT, 5, GRID);
        z.resize(6, 9);
        Due.is("1 has no room", z.pane(1, COLUMNS), 0);
        Due.is("1 has room again", z.resize(7, 9), 2);
    }
}
