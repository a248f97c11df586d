/** Promises 20 to 27, sentence by sentence: the calls for asks and events. */
public final class AskPromisesTest implements Terms {
    public static void main(String[] args) {
        Sentences.run(AskPromisesTest.class);
    }

    /** An EVENT 0 of the pane 1. */
    private static void press(GlkPanes x, int c) {
        Due.is("ask(1, KEY, 0)", x.ask(1, KEY, 0), 1);
        Due.is("type(1, " + c + ")", x.type(1, c), 1);
    }

    private static void enter(GlkPanes x, int pane, String line) {
        Due.is("ask(" + pane + ", LINE, 40)", x.ask(pane, LINE, 40), 1);
        Play.type(x, pane, line);
        Due.is("type(" + pane + ", 10)", x.type(pane, END), 1);
    }

    @Says(promise = 20, value = "An ASK, of LINE with a LIMIT")
    static void askTellsOne() {
        GlkPanes x = Play.allKinds();
        Due.is("KEY of a TEXT", x.ask(1, KEY, 0), 1);
        Due.is("LINK of a TEXT", x.ask(1, LINK, 0), 1);
        Due.is("LINE of a GRID", x.ask(2, LINE, 7), 1);
        Due.is("LINK of a GRID", x.ask(2, LINK, 0), 1);
        Due.is("CLICK of a GRID", x.ask(2, CLICK, 0), 1);
        Due.is("the KEY is met", x.type(1, 'a'), 1);
        Due.is("the CLICK is met", x.click(21, 0), 1);
        Due.is("the LINE is met", x.type(2, END), 1);
    }

    @Says(promise = 20, value = "An ASK, of LINE with a LIMIT")
    static void askOfALineHasItsLimit() {
        for (int limit = 1; limit <= 40; limit++) {
            GlkPanes x = Play.root(6, 3, TEXT);
            Due.is("LIMIT " + limit, x.ask(1, LINE, limit), 1);
            for (int i = 0; i < 45; i++) {
                x.type(1, 'a');
            }
            Due.is("as many signs", x.cancel(1, LINE), limit);
        }
    }

    @Says(promise = 20, value = "An ASK, of LINE with a LIMIT")
    static void askOfALineBeginsWithoutSigns() {
        GlkPanes x = Play.root(6, 3, TEXT);
        enter(x, 1, "abc");
        Due.is("another one", x.ask(1, LINE, 2), 1);
        Due.is("no signs yet", x.cancel(1, LINE), 0);
    }

    @Says(promise = 20, value = "(else it does not matter): 1.")
    static void aLimitOfAnotherAskDoesNotMatter() {
        int[] any = {LEAST_INT, -1, 0, 1, 40, 41, MOST_INT};
        int[] others = {KEY, LINK, CLICK};
        for (int limit : any) {
            for (int kind : others) {
                Due.is("ask(1, " + kind + ", " + limit + ")", Play.root(6, 3, GRID).ask(1, kind, limit), 1);
            }
        }
    }

    @Says(promise = 20, value = "BAD: also LIMIT;")
    static void askWithNoLimitIsBad() {
        int[] bad = {LEAST_INT, -1, 0, 41, 42, MOST_INT};
        for (int kind = TEXT; kind <= GRID; kind++) {
            GlkPanes x = Play.root(6, 3, kind);
            for (int limit : bad) {
                Due.is("LIMIT " + limit, x.ask(1, LINE, limit), BAD);
            }
            Due.is("none is asked for", x.cancel(1, LINE), NONE);
        }
    }

    @Says(promise = 20, value = "BAD: also LIMIT;")
    static void askOfNoKindOrNoOpenPaneIsBad() {
        int[] bad = {LEAST_INT, -1, 4, 5, MOST_INT};
        GlkPanes x = Play.allKinds();
        for (int kind : bad) {
            for (int n = 1; n <= 7; n++) {
                Due.is("ask(" + n + ", " + kind + ", 1)", x.ask(n, kind, 1), BAD);
            }
        }
        for (int kind = KEY; kind <= CLICK; kind++) {
            Play.badOfNoOpenPane("ask", 2, kind, 1);
        }
    }

    @Says(promise = 20, value = "NOT: the pane can't,")
    static void askOfAPaneThatCanNot() {
        GlkPanes x = Play.allKinds();
        for (int n : Play.WITHOUT_SIGNS) {
            for (int kind = KEY; kind <= CLICK; kind++) {
                Due.is("ask(" + n + ", " + kind + ", 1)", x.ask(n, kind, 1), NOT);
                Due.is("none is asked for", x.cancel(n, kind), NONE);
            }
        }
        Due.is("CLICK of a TEXT", x.ask(1, CLICK, 1), NOT);
        Due.is("none is asked for", x.cancel(1, CLICK), NONE);
    }

    @Says(promise = 20, value = "it is asked already,")
    static void askOfWhatIsAskedAlready() {
        for (int kind = KEY; kind <= CLICK; kind++) {
            GlkPanes x = Play.root(6, 3, GRID);
            Due.is("ask(1, " + kind + ", 3)", x.ask(1, kind, 3), 1);
            Due.is("again", x.ask(1, kind, 3), NOT);
            Due.is("another LIMIT", x.ask(1, kind, 40), NOT);
            Due.is("the first one stays", x.cancel(1, kind), kind == LINE ? 0 : 1);
            Due.is("when it has ended", x.ask(1, kind, 3), 1);
        }
    }

    @Says(promise = 20, value = "it is asked already,")
    static void askAgainLeavesTheLineAsItIs() {
        GlkPanes x = Play.root(6, 3, TEXT);
        x.ask(1, LINE, 2);
        Play.type(x, 1, "a");
        Due.is("again", x.ask(1, LINE, 40), NOT);
        Play.type(x, 1, "bc");
        Due.is("its LIMIT stays", x.cancel(1, LINE), 2);
    }

    @Says(promise = 20, value = "An ASK, of LINE with a LIMIT")
    static void askOfLinkOrClickLeavesTheLineAsItIs() {
        GlkPanes x = Play.root(6, 3, GRID);
        x.ask(1, LINE, 3);
        Play.type(x, 1, "ab");
        Due.is("LINK", x.ask(1, LINK, 1), 1);
        Due.is("CLICK", x.ask(1, CLICK, 40), 1);
        Play.rows("its signs stay", x, 1, "ab", "", "");
        Play.type(x, 1, "cd");
        Due.is("its LIMIT stays", x.cancel(1, LINE), 3);
    }

    @Says(promise = 20, value = "it is asked already,")
    static void askOfAnotherPaneCanBe() {
        for (int kind = KEY; kind <= LINK; kind++) {
            GlkPanes x = Play.allKinds();
            Due.is("TEXT", x.ask(1, kind, 3), 1);
            Due.is("GRID", x.ask(2, kind, 3), 1);
        }
    }

    @Says(promise = 20, value = "or KEY and LINE would be at once.")
    static void askOfKeyAndLineAtOnce() {
        for (int kind = TEXT; kind <= GRID; kind++) {
            GlkPanes x = Play.root(6, 3, kind);
            x.ask(1, KEY, 0);
            Due.is("LINE with KEY", x.ask(1, LINE, 3), NOT);
            Due.is("no LINE is asked for", x.cancel(1, LINE), NONE);
            Due.is("KEY is met", x.type(1, 'a'), 1);
            Due.is("LINE now", x.ask(1, LINE, 3), 1);
            Due.is("KEY with LINE", x.ask(1, KEY, 0), NOT);
            Due.is("no KEY is asked for", x.cancel(1, KEY), NONE);
            Due.is("LINE is met", x.type(1, END), 1);
            Due.is("KEY now", x.ask(1, KEY, 0), 1);
        }
    }

    @Says(promise = 20, value = "or KEY and LINE would be at once.")
    static void askOfKeyBesideALineOfAnotherPane() {
        GlkPanes x = Play.allKinds();
        Due.is("LINE", x.ask(1, LINE, 3), 1);
        Due.is("KEY of another pane", x.ask(2, KEY, 0), 1);
    }

    @Says(promise = 21, value = "An ASK is CANCELLED: 1")
    static void cancelTellsOne() {
        int[] kinds = {KEY, LINK, CLICK};
        for (int kind : kinds) {
            GlkPanes x = Play.root(6, 3, GRID);
            x.link(1, 5);
            x.sign(1, 'a');
            x.ask(1, kind, 0);
            Due.is("cancel(1, " + kind + ")", x.cancel(1, kind), 1);
            Due.is("typed", x.type(1, 'a'), 0);
            Due.is("clicked", x.click(0, 0), 0);
            Due.is("no EVENT", x.count(WAITING), 0);
            Due.is("nothing is ECHOED", x.pane(1, WRITTEN), 1);
        }
    }

    @Says(promise = 21, value = "An ASK is CANCELLED: 1")
    static void cancelIsOfThatAskAlone() {
        GlkPanes x = Play.allKinds();
        x.ask(1, KEY, 0);
        x.ask(2, KEY, 0);
        x.ask(2, LINK, 0);
        x.ask(2, CLICK, 0);
        Due.is("CLICK of the GRID", x.cancel(2, CLICK), 1);
        Due.is("its LINK stays", x.cancel(2, LINK), 1);
        Due.is("its KEY stays", x.cancel(2, KEY), 1);
        Due.is("the TEXT's KEY stays", x.cancel(1, KEY), 1);
    }

    @Says(promise = 21, value = "(of LINE how many signs it had);")
    static void cancelOfALineTellsItsSigns() {
        for (int kind = TEXT; kind <= GRID; kind++) {
            GlkPanes x = Play.root(6, 3, kind);
            int[] signs = {0, 1, 2, 39, 40};
            for (int n : signs) {
                x.ask(1, LINE, 40);
                for (int i = 0; i < n; i++) {
                    x.type(1, 'a');
                }
                Due.is(n + " signs", x.cancel(1, LINE), n);
            }
            x.ask(1, LINE, 40);
            Play.type(x, 1, "abc");
            x.type(1, BACK);
            Due.is("less those that were taken", x.cancel(1, LINE), 2);
        }
    }

    @Says(promise = 21, value = "(of LINE how many signs it had);")
    static void cancelOfALineThatIsNotEchoedTellsItsSigns() {
        GlkPanes x = Play.root(6, 3, TEXT);
        x.echo(1, false);
        x.ask(1, LINE, 40);
        Play.type(x, 1, "abc");
        Due.is("three", x.cancel(1, LINE), 3);
        Due.is("nothing is WRITTEN", x.pane(1, WRITTEN), 0);
    }

    @Says(promise = 21, value = "NONE: there was none.")
    static void cancelOfNoAskIsNone() {
        GlkPanes x = Play.allKinds();
        for (int n = 1; n <= 7; n++) {
            for (int kind = KEY; kind <= CLICK; kind++) {
                Due.is("cancel(" + n + ", " + kind + ")", x.cancel(n, kind), NONE);
            }
            Due.is("nothing is WRITTEN", x.pane(n, WRITTEN), 0);
        }
    }

    @Says(promise = 21, value = "NONE: there was none.")
    static void cancelOfAnAskThatHasEndedIsNone() {
        GlkPanes x = Play.root(6, 3, GRID);
        press(x, 'a');
        Due.is("a KEY that was met", x.cancel(1, KEY), NONE);
        enter(x, 1, "abc");
        Due.is("a LINE that was met", x.cancel(1, LINE), NONE);
        x.ask(1, CLICK, 0);
        x.cancel(1, CLICK);
        Due.is("a CLICK that was CANCELLED", x.cancel(1, CLICK), NONE);
    }

    @Says(promise = 21, value = "BAD.")
    static void cancelOfNoKindOrNoOpenPaneIsBad() {
        int[] bad = {LEAST_INT, -1, 4, 5, MOST_INT};
        GlkPanes x = Play.allKinds();
        for (int kind : bad) {
            for (int n = 1; n <= 7; n++) {
                Due.is("cancel(" + n + ", " + kind + ")", x.cancel(n, kind), BAD);
            }
        }
        for (int n : Play.NOT_OPEN) {
            for (int kind = KEY; kind <= CLICK; kind++) {
                Due.is("cancel(" + n + ", " + kind + ")", Play.someClosed().cancel(n, kind), BAD);
            }
        }
    }

    @Says(promise = 22, value = "A pane ECHOES, or not")
    static void echoTellsWhetherALineIsEchoed() {
        for (int kind = TEXT; kind <= GRID; kind++) {
            GlkPanes x = Play.root(6, 3, kind);
            x.echo(1, false);
            Due.is("it does not", x.pane(1, ECHOES), 0);
            enter(x, 1, "ab");
            Play.rows("nothing", x, 1, "", "", "");
            x.echo(1, true);
            Due.is("it does", x.pane(1, ECHOES), 1);
            enter(x, 1, "cd");
            Play.rows("ECHOED", x, 1, "cd", "", "");
        }
    }

    @Says(promise = 22, value = "A pane ECHOES, or not")
    static void echoMayComeBesideALine() {
        for (int kind = TEXT; kind <= GRID; kind++) {
            GlkPanes x = Play.root(6, 3, kind);
            x.ask(1, LINE, 5);
            Play.type(x, 1, "ab");
            Due.is("echo(1, false)", x.echo(1, false), 1);
            Play.rows("it is seen still", x, 1, "ab", "", "");
            x.type(1, END);
            Play.rows("not ECHOED", x, 1, "", "", "");
        }
    }

    @Says(promise = 22, value = "(at first it does):")
    static void echoIsSoAtFirst() {
        for (int kind = TEXT; kind <= GRID; kind++) {
            GlkPanes x = Play.root(6, 3, kind);
            Due.is("pane(1, 9)", x.pane(1, ECHOES), 1);
            enter(x, 1, "ab");
            Play.rows("ECHOED", x, 1, "ab", "", "");
            Due.is("it did", Play.root(6, 3, kind).echo(1, false), 1);
        }
    }

    @Says(promise = 22, value = "1 if it did, else 0.")
    static void echoTellsWhetherItDid() {
        for (int n = 1; n <= 2; n++) {
            GlkPanes x = Play.allKinds();
            Due.is("it did", x.echo(n, true), 1);
            Due.is("it did still", x.echo(n, false), 1);
            Due.is("it did not", x.echo(n, false), 0);
            Due.is("it did not still", x.echo(n, true), 0);
            Due.is("it did again", x.echo(n, true), 1);
            x.echo(n, false);
            Due.is("the other pane does", x.pane(3 - n, ECHOES), 1);
        }
    }

    @Says(promise = 22, value = "BAD;")
    static void echoOfNoOpenPaneIsBad() {
        Play.badOfNoOpenPane("echo", 1, 0);
        Play.badOfNoOpenPane("echo", 1, 1);
    }

    @Says(promise = 22, value = "NOT: no TEXT, GRID.")
    static void echoOfAnotherPaneCanNotBe() {
        GlkPanes x = Play.allKinds();
        for (int n : Play.WITHOUT_SIGNS) {
            Due.is("echo(" + n + ", false)", x.echo(n, false), NOT);
            Due.is("echo(" + n + ", true)", x.echo(n, true), NOT);
            Due.is("as at first", x.pane(n, ECHOES), 1);
        }
    }

    private static final String TYPES = "THE PLAYER types a sign (8, 10, 32 .. 126) for a pane: 1 if an EVENT came, else 0.";

    @Says(promise = 23, value = TYPES)
    static void typeTellsOneWhenAnEventCame() {
        for (int c = 0; c <= 126; c++) {
            if (c == BACK || c == END || c >= 32) {
                GlkPanes x = Play.root(6, 3, TEXT);
                press(x, c);
                Due.is("one EVENT", x.count(WAITING), 1);
            }
        }
        GlkPanes y = Play.root(6, 3, GRID);
        enter(y, 1, "ab");
        Due.is("one EVENT", y.count(WAITING), 1);
    }

    @Says(promise = 23, value = TYPES)
    static void typeTellsZeroWhenNoneCame() {
        GlkPanes x = Play.root(6, 3, TEXT);
        int[] signs = {BACK, END, 32, 126};
        for (int c : signs) {
            Due.is("not asked for: " + c, x.type(1, c), 0);
        }
        x.ask(1, LINE, 1);
        int[] within = {32, BACK, BACK, 126, 'a', 'b'};
        for (int c : within) {
            Due.is("within a LINE: " + c, x.type(1, c), 0);
        }
        Due.is("no EVENT", x.count(WAITING), 0);
    }

    @Says(promise = 23, value = TYPES)
    static void typeIsForThatPaneAlone() {
        GlkPanes x = Play.allKinds();
        x.ask(1, KEY, 0);
        x.ask(2, LINE, 5);
        for (int n : Play.WITHOUT_SIGNS) {
            Due.is("type(" + n + ", 10)", x.type(n, END), 0);
        }
        Due.is("for the GRID", x.type(2, 'a'), 0);
        Due.is("the TEXT asks still", x.type(1, 'b'), 1);
        Due.is("the GRID's LINE has its own sign", x.cancel(2, LINE), 1);
    }

    @Says(promise = 23, value = TYPES)
    static void typeForAPaneWithoutRoomIsWell() {
        for (int kind = TEXT; kind <= GRID; kind++) {
            GlkPanes x = Play.split(20, 9, LEFT, 0, kind);
            enter(x, 2, "abc");
            Play.event("LINE", x, 1, 2, 3, 0);
            Due.is("ECHOED", x.pane(2, WRITTEN), 4);
        }
    }

    @Says(promise = 23, value = "BAD.")
    static void typeOfNoSignOrNoOpenPaneIsBad() {
        int[] bad = {LEAST_INT, -1, 0, 7, 9, 11, 13, 31, 127, 128, 256 + 'a', MOST_INT};
        GlkPanes x = Play.allKinds();
        x.ask(1, KEY, 0);
        x.ask(2, LINE, 5);
        for (int c : bad) {
            for (int n = 1; n <= 7; n++) {
                Due.is("type(" + n + ", " + c + ")", x.type(n, c), BAD);
            }
        }
        Due.is("KEY is asked for still", x.cancel(1, KEY), 1);
        Due.is("LINE has no signs", x.cancel(2, LINE), 0);
        Play.badOfNoOpenPane("type", 1, 'a');
        Play.badOfNoOpenPane("type", 1, END);
    }

    private static final String CLICKED = "THE PLAYER CLICKS: 1 if an EVENT came, else 0.";

    @Says(promise = 24, value = CLICKED)
    static void clickTellsOneWhenAnEventCame() {
        GlkPanes x = Play.split(20, 9, RIGHT, 5, GRID);
        x.link(1, 9);
        Play.write(x, 1, "ab");
        x.ask(1, LINK, 0);
        x.ask(2, CLICK, 0);
        Due.is("CLICK", x.click(19, 8), 1);
        Due.is("LINK", x.click(1, 0), 1);
        Due.is("two EVENTS", x.count(WAITING), 2);
        Play.event("the first one", x, 3, 2, 4, 8);
        Play.event("the second one", x, 2, 1, 9, 0);
    }

    @Says(promise = 24, value = CLICKED)
    static void clickTellsZeroWhenNoneCame() {
        GlkPanes x = Play.allKinds();
        int[][] places = {{0, 0}, {0, 11}, {20, 0}, {21, 0}, {40, 11}, {0, 8}};
        for (int[] p : places) {
            Due.is("click(" + p[0] + ", " + p[1] + ")", x.click(p[0], p[1]), 0);
        }
        x.ask(1, KEY, 0);
        x.ask(2, LINE, 5);
        Due.is("a KEY is no CLICK", x.click(0, 0), 0);
        Due.is("a LINE is no CLICK", x.click(21, 0), 0);
        Due.is("no EVENT", x.count(WAITING), 0);
        Due.is("without a ROOT", new GlkPanes(6, 3).click(0, 0), 0);
    }

    /** A GRID's CLICK is met wherever it is clicked, by its room at that time. */
    @Says(promise = 24, value = CLICKED)
    static void clickIsByTheRoomAtThatTime() {
        GlkPanes x = Play.split(20, 9, RIGHT, 5, GRID);
        x.ask(2, CLICK, 0);
        x.resize(30, 9);
        Due.is("where it was", x.click(16, 3), 0);
        Due.is("where it is", x.click(26, 3), 1);
        Play.event("the size", x, 4, 0, 30, 9);
        Play.event("in the GRID", x, 3, 2, 1, 3);
    }

    @Says(promise = 24, value = "BAD.")
    static void clickOutsideIsBad() {
        Play.badOutside("click", Play.split(10, 4, RIGHT, 3, GRID), 10, 4);
        Play.badOutside("click", new GlkPanes(10, 4), 10, 4);
        Play.badOutside("click", new GlkPanes(99, 99), 60, 24);
        GlkPanes x = Play.root(10, 4, GRID);
        x.ask(1, CLICK, 0);
        Due.is("outside", x.click(10, 0), BAD);
        Due.is("it is asked for still", x.cancel(1, CLICK), 1);
    }

    @Says(promise = 25, value = "The oldest EVENT is TAKEN: its kind;")
    static void takeTellsTheOldestsKind() {
        GlkPanes x = Play.root(6, 3, GRID);
        press(x, 'a');
        enter(x, 1, "b");
        x.cursor(1, 0, 0);
        x.link(1, 7);
        x.sign(1, 'c');
        x.ask(1, LINK, 0);
        x.click(0, 0);
        x.ask(1, CLICK, 0);
        x.click(2, 1);
        x.resize(20, 9);
        for (int kind = 0; kind <= 4; kind++) {
            Due.is("waiting", x.count(WAITING), 5 - kind);
            Due.is("take()", x.take(), kind);
        }
        Due.is("no more", x.count(WAITING), 0);
    }

    @Says(promise = 25, value = "NONE.")
    static void takeTellsNoneWhenNoneWaits() {
        GlkPanes x = Play.root(6, 3, TEXT);
        Due.is("at first", x.take(), NONE);
        Due.is("again", x.take(), NONE);
        press(x, 'a');
        Due.is("one", x.take(), 0);
        Due.is("no more", x.take(), NONE);
        press(x, 'b');
        Due.is("one more", x.take(), 0);
        Due.is("its sign", x.event(2), 'b');
    }

    /** The EVENTS of a pane stay when it is closed. */
    @Says(promise = 25, value = "The oldest EVENT is TAKEN: its kind;")
    static void takeTellsEventsOfClosedPanes() {
        GlkPanes x = Play.root(6, 3, TEXT);
        press(x, 'a');
        x.close(1);
        Play.event("it waits still", x, 0, 1, 'a', 0);
    }

    private static final String FACTS = "Of the EVENT taken last: what = 0 kind, 1 pane, 2 its first number (0: it has none), "
        + "3 its second one,";

    @Says(promise = 26, value = FACTS)
    static void eventTellsTheFactsOfEachKind() {
        GlkPanes x = Play.split(20, 9, RIGHT, 5, GRID);
        x.ask(2, KEY, 0);
        x.type(2, 126);
        Play.event("KEY: the sign", x, 0, 2, 126, 0);
        enter(x, 1, "abc");
        Play.event("LINE: how many signs", x, 1, 1, 3, 0);
        x.link(2, 999);
        x.sign(2, 'x');
        x.ask(2, LINK, 0);
        x.click(15, 0);
        Play.event("LINK: it", x, 2, 2, 999, 0);
        x.ask(2, CLICK, 0);
        x.click(17, 8);
        Play.event("CLICK: column and row", x, 3, 2, 2, 8);
        x.resize(30, 10);
        Play.event("size: W and H", x, 4, 0, 30, 10);
    }

    @Says(promise = 26, value = FACTS)
    static void eventTellsTheOneThatWasTakenLast() {
        GlkPanes x = Play.root(6, 3, TEXT);
        press(x, 'a');
        press(x, 'b');
        x.take();
        Due.is("the first one", x.event(2), 'a');
        Due.is("again", x.event(2), 'a');
        x.take();
        Due.is("the second one", x.event(2), 'b');
        x.take();
        Due.is("none was taken since", x.event(2), 'b');
    }

    private static final String SIGN_FACTS = "4 + k sign k of a LINE (0 where there is none).";

    @Says(promise = 26, value = SIGN_FACTS)
    static void eventTellsTheSignsOfALine() {
        GlkPanes x = Play.root(6, 3, TEXT);
        enter(x, 1, "a ~");
        x.take();
        Due.is("sign 0", x.event(4), 'a');
        Due.is("sign 1", x.event(5), ' ');
        Due.is("sign 2", x.event(6), '~');
        for (int i = 7; i <= 43; i++) {
            Due.is("event(" + i + ")", x.event(i), 0);
        }
    }

    @Says(promise = 26, value = SIGN_FACTS)
    static void eventTellsFortySignsOfALine() {
        GlkPanes x = Play.root(6, 3, GRID);
        enter(x, 1, "ABCDEFGHIJKLMNOPQRSTUVWXYZabcdefghijklmn");
        x.take();
        Due.is("how many", x.event(2), 40);
        Due.is("the first one", x.event(4), 'A');
        Due.is("the last but one", x.event(42), 'm');
        Due.is("the last one", x.event(43), 'n');
    }

    @Says(promise = 26, value = SIGN_FACTS)
    static void eventTellsNoSignsOfOthers() {
        GlkPanes x = Play.root(6, 3, TEXT);
        for (int round = 0; round < 21; round++) {
            enter(x, 1, "abcd");
            x.take();
        }
        press(x, 'a');
        x.resize(20, 9);
        for (int e = 0; e < 2; e++) {
            x.take();
            for (int i = 4; i <= 43; i++) {
                Due.is("event(" + i + ")", x.event(i), 0);
            }
        }
    }

    @Says(promise = 26, value = "NONE: none was taken.")
    static void eventTellsNoneWhenNoneWasTaken() {
        GlkPanes x = Play.root(6, 3, TEXT);
        for (int i = 0; i <= 43; i++) {
            Due.is("event(" + i + ")", x.event(i), NONE);
        }
        press(x, 'a');
        Due.is("one waits, but was not taken", x.event(0), NONE);
        GlkPanes y = Play.root(6, 3, TEXT);
        y.take();
        Due.is("there was none to take", y.event(0), NONE);
    }

    @Says(promise = 26, value = "BAD: not 0 .. 43.")
    static void eventOfNoFactIsBad() {
        int[] bad = {LEAST_INT, -1, 44, 45, MOST_INT};
        GlkPanes x = Play.root(6, 3, TEXT);
        for (int what : bad) {
            Due.is("none taken: event(" + what + ")", x.event(what), BAD);
        }
        enter(x, 1, "ab");
        x.take();
        for (int what : bad) {
            Due.is("event(" + what + ")", x.event(what), BAD);
        }
    }

    @Says(promise = 27, value = "0 W, 1 H,")
    static void countTellsTheScreensSize() {
        GlkPanes x = new GlkPanes(33, 7);
        Due.is("W", x.count(0), 33);
        Due.is("H", x.count(1), 7);
        x.resize(99, 1);
        Due.is("W then", x.count(0), 60);
        Due.is("H then", x.count(1), 2);
    }

    @Says(promise = 27, value = "2 open panes (with PAIRS), 3 of these no PAIRS,")
    static void countTellsOpenPanes() {
        GlkPanes x = new GlkPanes(20, 9);
        opened("at first", x, 0, 0);
        x.open(0, 0, 0, BLANK);
        opened("the ROOT", x, 1, 1);
        x.open(1, LEFT, 5, PICTURE);
        opened("a PAIR", x, 3, 2);
        x.open(3, BELOW, 5, GRID);
        opened("two PAIRS", x, 5, 3);
        x.close(1);
        opened("one is closed", x, 3, 2);
        x.close(5);
        opened("all are closed", x, 0, 0);
    }

    private static void opened(String what, GlkPanes x, int open, int leaves) {
        Due.is(what + ": open panes", x.count(2), open);
        Due.is(what + ": no PAIRS", x.count(3), leaves);
    }

    @Says(promise = 27, value = "4 panes that there were in all,")
    static void countTellsPanesInAll() {
        GlkPanes x = new GlkPanes(20, 9);
        Due.is("none", x.count(4), 0);
        x.open(0, 0, 0, TEXT);
        Due.is("the ROOT", x.count(4), 1);
        x.open(1, LEFT, 5, GRID);
        Due.is("with a PAIR", x.count(4), 3);
        x.close(3);
        Due.is("closed ones, too", x.count(4), 3);
        x.open(0, 0, 0, TEXT);
        Due.is("one more", x.count(4), 4);
        x.open(4, 16, 5, GRID);
        x.open(0, 0, 0, GRID);
        Due.is("no refused ones", x.count(4), 4);
    }

    @Says(promise = 27, value = "5 EVENTS that wait.")
    static void countTellsEventsThatWait() {
        GlkPanes x = Play.root(6, 3, TEXT);
        for (int i = 0; i < 23; i++) {
            Due.is(i + " came", x.count(5), Math.min(i, 20));
            press(x, 'a');
        }
        for (int i = 20; i > 0; i--) {
            Due.is("that wait", x.count(5), i);
            x.take();
        }
        Due.is("none", x.count(5), 0);
        x.take();
        Due.is("none still", x.count(5), 0);
    }

    @Says(promise = 27, value = "BAD.")
    static void countOfNothingThatThereIsIsBad() {
        int[] bad = {LEAST_INT, -1, 6, 7, MOST_INT};
        for (int what : bad) {
            Due.is("count(" + what + ")", Play.allKinds().count(what), BAD);
            Due.is("count(" + what + ") without panes", new GlkPanes(20, 9).count(what), BAD);
        }
    }
}
