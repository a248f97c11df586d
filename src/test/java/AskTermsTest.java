/** Sections 3 and 4 of the Terms, sentence by sentence: ASKS, ECHOED, CLICKS, EVENTS, DRAWN. */
public final class AskTermsTest implements Terms {
    public static void main(String[] args) {
        Sentences.run(AskTermsTest.class);
    }

    private static final String ASKS = "3 ASKS: 0 KEY, 1 LINE (both of TEXT and GRID, not both at once), "
        + "2 LINK (TEXT, GRID), 3 CLICK (GRID).";

    @Says(ASKS)
    static void textAndGridCanBeAskedForKeyLineAndLink() {
        for (int kind = TEXT; kind <= GRID; kind++) {
            Due.is("KEY", Play.root(6, 3, kind).ask(1, 0, 1), 1);
            Due.is("LINE", Play.root(6, 3, kind).ask(1, 1, 1), 1);
            Due.is("LINK", Play.root(6, 3, kind).ask(1, 2, 1), 1);
        }
    }

    @Says(ASKS)
    static void aGridAloneCanBeAskedForClick() {
        Due.is("GRID", Play.root(6, 3, GRID).ask(1, 3, 1), 1);
        Due.is("TEXT", Play.root(6, 3, TEXT).ask(1, 3, 1), NOT);
    }

    @Says(ASKS)
    static void blankPictureAndPairCanNotBeAsked() {
        GlkPanes x = Play.allKinds();
        int[] others = {3, 4, 5, 6, 7};
        for (int n : others) {
            for (int kind = KEY; kind <= CLICK; kind++) {
                Due.is("ask(" + n + ", " + kind + ", 1)", x.ask(n, kind, 1), NOT);
            }
        }
    }

    @Says(ASKS)
    static void keyAndLineAreNotAskedForBothAtOnce() {
        for (int kind = TEXT; kind <= GRID; kind++) {
            GlkPanes x = Play.root(6, 3, kind);
            x.ask(1, KEY, 0);
            Due.is("LINE with KEY", x.ask(1, LINE, 1), NOT);
            x.cancel(1, KEY);
            x.ask(1, LINE, 1);
            Due.is("KEY with LINE", x.ask(1, KEY, 0), NOT);
            Due.is("LINK with LINE", x.ask(1, LINK, 0), 1);
            x.cancel(1, LINE);
            Due.is("KEY with LINK", x.ask(1, KEY, 0), 1);
        }
    }

    @Says("An ASK that is met ends;")
    static void aKeyThatIsMetEnds() {
        GlkPanes x = Play.root(6, 3, TEXT);
        x.ask(1, KEY, 0);
        Due.is("met", x.type(1, 'a'), 1);
        Due.is("ended", x.type(1, 'a'), 0);
        Due.is("none is left", x.cancel(1, KEY), NONE);
        Due.is("it can be asked again", x.ask(1, KEY, 0), 1);
    }

    @Says("An ASK that is met ends;")
    static void aLineThatIsMetEnds() {
        GlkPanes x = Play.root(6, 3, TEXT);
        x.ask(1, LINE, 5);
        Due.is("not met yet", x.type(1, 'a'), 0);
        Due.is("met", x.type(1, END), 1);
        Due.is("ended", x.type(1, END), 0);
        Due.is("none is left", x.cancel(1, LINE), NONE);
        Due.is("signs come again", x.sign(1, 'a'), 1);
        Due.is("it can be asked again", x.ask(1, LINE, 5), 1);
        Due.is("without the signs that it had", x.cancel(1, LINE), 0);
    }

    @Says("An ASK that is met ends;")
    static void aLinkAndAClickThatAreMetEnd() {
        GlkPanes x = Play.root(6, 3, GRID);
        x.link(1, 7);
        x.sign(1, 'a');
        x.ask(1, LINK, 0);
        x.ask(1, CLICK, 0);
        Due.is("CLICK is met", x.click(0, 0), 1);
        Due.is("no CLICK is left", x.cancel(1, CLICK), NONE);
        Due.is("LINK is met", x.click(0, 0), 1);
        Due.is("no LINK is left", x.cancel(1, LINK), NONE);
        Due.is("both ended", x.click(0, 0), 0);
        Due.is("LINK can be asked again", x.ask(1, LINK, 0), 1);
        Due.is("CLICK can be asked again", x.ask(1, CLICK, 0), 1);
    }

    @Says("An ASK that is met ends;")
    static void otherAsksOfThePaneStay() {
        GlkPanes x = Play.root(6, 3, GRID);
        x.ask(1, KEY, 0);
        x.ask(1, LINK, 0);
        x.ask(1, CLICK, 0);
        x.type(1, 'a');
        Due.is("LINK stays", x.cancel(1, LINK), 1);
        Due.is("CLICK stays", x.cancel(1, CLICK), 1);
    }

    @Says("CANCELLED, and with its pane closed, too.")
    static void anAskThatIsCancelledEnds() {
        GlkPanes x = Play.root(6, 3, GRID);
        int[] kinds = {KEY, LINK, CLICK, LINE};
        for (int kind : kinds) {
            x.ask(1, kind, 5);
            x.cancel(1, kind);
            Due.is("none is left of " + kind, x.cancel(1, kind), NONE);
        }
        Due.is("typed", x.type(1, 'a'), 0);
        Due.is("clicked", x.click(0, 0), 0);
    }

    @Says("CANCELLED, and with its pane closed, too.")
    static void anAskEndsWithItsPane() {
        GlkPanes x = Play.split(20, 9, LEFT, 5, GRID);
        x.ask(2, CLICK, 0);
        x.ask(2, LINE, 5);
        Play.type(x, 2, "ab");
        Due.is("nothing is ECHOED", x.close(2), 0);
        Due.is("no EVENT", x.count(WAITING), 0);
        Due.is("typed for it", x.type(2, END), BAD);
        Due.is("CANCELLED", x.cancel(2, LINE), BAD);
        Due.is("clicked where it was", x.click(0, 0), 0);
        Due.is("a new one has its place", x.open(1, LEFT, 5, GRID), 4);
        Due.is("no CLICK of this", x.click(0, 0), 0);
        Due.is("no LINE of this", x.type(4, END), 0);
    }

    @Says("THE PLAYER types a sign for a pane: by KEY it is an EVENT 0 with the sign.")
    static void aKeyIsAnEventWithTheSign() {
        int[] signs = {BACK, END, 32, 'a', 126};
        for (int kind = TEXT; kind <= GRID; kind++) {
            for (int c : signs) {
                GlkPanes x = Play.root(6, 3, kind);
                x.ask(1, KEY, 0);
                Due.is("type(1, " + c + ")", x.type(1, c), 1);
                Play.event("KEY", x, 0, 1, c, 0);
                Due.is("nothing is WRITTEN", x.pane(1, WRITTEN), 0);
            }
        }
    }

    @Says("THE PLAYER types a sign for a pane: by KEY it is an EVENT 0 with the sign.")
    static void aKeyIsOfThePaneThatIsTypedFor() {
        GlkPanes x = Play.split(20, 9, LEFT, 5, GRID);
        x.ask(1, KEY, 0);
        x.ask(2, KEY, 0);
        x.type(2, 'a');
        Play.event("of the GRID", x, 0, 2, 'a', 0);
        Due.is("the TEXT asks still", x.cancel(1, KEY), 1);
    }

    private static final String BEHIND_THE_LINE = "By LINE: 32 .. 126 comes behind the LINE, "
        + "if this has less than its LIMIT (1 .. 40), else nothing;";

    @Says(BEHIND_THE_LINE)
    static void aSignComesBehindTheLine() {
        GlkPanes x = Play.root(10, 3, TEXT);
        x.ask(1, LINE, 40);
        Play.type(x, 1, "a ~");
        Play.rows("three", x, 1, "a ~", "", "");
        Due.is("no EVENT", x.count(WAITING), 0);
    }

    @Says(BEHIND_THE_LINE)
    static void aLineOfItsLimitTakesNoMore() {
        int[] limits = {1, 2, 39, 40};
        for (int limit : limits) {
            GlkPanes x = Play.root(60, 3, TEXT);
            x.ask(1, LINE, limit);
            for (int i = 0; i < limit; i++) {
                Due.is("type()", x.type(1, 'a'), 0);
            }
            Due.is("one more", x.type(1, 'b'), 0);
            Due.is("its last sign", x.shown(1, limit - 1, 0, 0), 'a');
            Due.is("nothing behind it", x.shown(1, limit, 0, 0), 32);
            Due.is("as many as its LIMIT", x.cancel(1, LINE), limit);
        }
    }

    @Says("8 takes its last sign;")
    static void eightTakesTheLastSign() {
        GlkPanes x = Play.root(10, 3, TEXT);
        x.ask(1, LINE, 3);
        Play.type(x, 1, "abc");
        Due.is("8", x.type(1, 8), 0);
        Play.rows("two are left", x, 1, "ab", "", "");
        Play.type(x, 1, "d");
        Play.rows("there is room for one", x, 1, "abd", "", "");
    }

    @Says("8 takes its last sign;")
    static void eightOfALineWithoutSignsTakesNothing() {
        GlkPanes x = Play.root(10, 3, TEXT);
        Play.write(x, 1, "go");
        x.ask(1, LINE, 3);
        Due.is("8", x.type(1, 8), 0);
        Due.is("8 again", x.type(1, 8), 0);
        Play.rows("the TEXT's own stay", x, 1, "go", "", "");
        Play.type(x, 1, "a");
        Due.is("one sign", x.cancel(1, LINE), 1);
    }

    private static final String TEN_ENDS = "10 ends it: it is ECHOED (if the pane does), "
        + "EVENT 1 with how many signs it had, and these.";

    @Says(TEN_ENDS)
    static void tenEndsTheLineWithAnEvent() {
        GlkPanes x = Play.root(10, 3, TEXT);
        x.ask(1, LINE, 40);
        Play.type(x, 1, "go!");
        Due.is("10", x.type(1, 10), 1);
        Play.event("LINE", x, 1, 1, 3, 0);
        Due.is("its first sign", x.event(4), 'g');
        Due.is("its second sign", x.event(5), 'o');
        Due.is("its last sign", x.event(6), '!');
        Due.is("no more", x.event(7), 0);
        Play.rows("ECHOED", x, 1, "go!", "", "");
    }

    @Says(TEN_ENDS)
    static void tenEndsALineWithoutSigns() {
        GlkPanes x = Play.root(10, 3, TEXT);
        x.ask(1, LINE, 40);
        Due.is("10", x.type(1, 10), 1);
        Play.event("LINE", x, 1, 1, 0, 0);
        Due.is("no sign", x.event(4), 0);
        Due.is("an END is ECHOED", x.lines(1), 2);
    }

    @Says(TEN_ENDS)
    static void tenEndsALineOf40Signs() {
        GlkPanes x = Play.root(10, 3, GRID);
        x.ask(1, LINE, 40);
        for (int i = 0; i < 40; i++) {
            x.type(1, 'A' + i);
        }
        Due.is("10", x.type(1, 10), 1);
        Play.event("LINE", x, 1, 1, 40, 0);
        for (int i = 0; i < 40; i++) {
            Due.is("sign " + i, x.event(4 + i), 'A' + i);
        }
    }

    @Says(TEN_ENDS)
    static void aPaneThatDoesNotEchoHasTheEventAlone() {
        for (int kind = TEXT; kind <= GRID; kind++) {
            GlkPanes x = Play.root(10, 3, kind);
            x.echo(1, false);
            x.ask(1, LINE, 40);
            Play.type(x, 1, "go");
            Play.rows("it is seen", x, 1, "go", "", "");
            Due.is("10", x.type(1, 10), 1);
            Play.rows("it is gone", x, 1, "", "", "");
            Due.is("nothing is WRITTEN", x.pane(1, WRITTEN), 0);
            Play.event("LINE", x, 1, 1, 2, 0);
            Due.is("its first sign", x.event(4), 'g');
        }
    }

    @Says("Without one of both nothing.")
    static void withoutKeyAndLineNothingHappens() {
        GlkPanes x = Play.allKinds();
        x.ask(1, LINK, 0);
        x.ask(2, LINK, 0);
        x.ask(2, CLICK, 0);
        int[] signs = {BACK, END, 32, 126};
        for (int n = 1; n <= 7; n++) {
            for (int c : signs) {
                Due.is("type(" + n + ", " + c + ")", x.type(n, c), 0);
            }
            Due.is("nothing is WRITTEN", x.pane(n, WRITTEN), 0);
        }
        Due.is("no EVENT", x.count(WAITING), 0);
        Due.is("no LINES", x.lines(1), 0);
    }

    private static final String ECHOED_IN_TEXT = "ECHOED: in a TEXT it is written, in STYLE 8 and LINK 0, and an END;";

    @Says(ECHOED_IN_TEXT)
    static void inATextALineIsEchoedWithAnEnd() {
        GlkPanes x = Play.root(10, 3, TEXT);
        x.style(1, 2);
        x.link(1, 6);
        Play.write(x, 1, ">");
        x.ask(1, LINE, 40);
        Play.type(x, 1, "go");
        x.type(1, END);
        Play.write(x, 1, "x");
        Play.rows("two LINES", x, 1, ">go", "x", "");
        Play.ink("ahead of it", x, 1, 0, 0, '>', 2, 6);
        Play.ink("its first", x, 1, 1, 0, 'g', 8, 0);
        Play.ink("its last", x, 1, 2, 0, 'o', 8, 0);
        Play.ink("behind it, as before", x, 1, 0, 1, 'x', 2, 6);
    }

    /** Of 398 signs, a LINE of two, and an END the first one goes. */
    @Says(ECHOED_IN_TEXT)
    static void whatIsEchoedTakesTheOldestOfATextThatIsFull() {
        GlkPanes x = Play.root(40, 12, TEXT);
        Play.write(x, 1, "ab");
        for (int i = 0; i < 396; i++) {
            x.sign(1, 'x');
        }
        x.ask(1, LINE, 40);
        Play.type(x, 1, "yz");
        Due.is("all are seen", x.shown(1, 0, 0, 0), 'a');
        x.type(1, END);
        Due.is("the first one goes", x.shown(1, 0, 0, 0), 'b');
        Due.is("its last sign", x.shown(1, 38, 9, 0), 'z');
        Due.is("399 signs and an END", x.lines(1), 11);
    }

    private static final String ECHOED_IN_GRID = "in a GRID its signs from the CURSOR on in its row, as far as this goes "
        + "(STYLE 8, LINK 0), and the CURSOR goes to the next row's first column.";

    @Says(ECHOED_IN_GRID)
    static void inAGridALineIsEchoedFromTheCursorOn() {
        GlkPanes x = Play.root(6, 3, GRID);
        x.style(1, 2);
        x.link(1, 6);
        Play.write(x, 1, "abcdef");
        x.cursor(1, 1, 0);
        x.ask(1, LINE, 40);
        Play.type(x, 1, "XY");
        x.type(1, END);
        Play.rows("over the signs", x, 1, "aXYdef", "", "");
        Play.ink("ahead of it", x, 1, 0, 0, 'a', 2, 6);
        Play.ink("its first", x, 1, 1, 0, 'X', 8, 0);
        Play.ink("its last", x, 1, 2, 0, 'Y', 8, 0);
        Play.ink("behind it", x, 1, 3, 0, 'd', 2, 6);
        Play.cursor("in the next row", x, 1, 0, 1);
    }

    @Says(ECHOED_IN_GRID)
    static void inAGridALineIsEchoedAsFarAsItsRowGoes() {
        GlkPanes x = Play.root(6, 3, GRID);
        x.cursor(1, 4, 0);
        x.ask(1, LINE, 40);
        Play.type(x, 1, "WXYZ");
        x.type(1, END);
        Play.rows("two of four", x, 1, "    WX", "", "");
        Play.cursor("in the next row", x, 1, 0, 1);
        x.resize(8, 3);
        Play.rows("the others are lost", x, 1, "    WX", "", "");
    }

    @Says(ECHOED_IN_GRID)
    static void inAGridALineBehindItsPlacesIsNotWritten() {
        int[][] outside = {{6, 1}, {99, 0}, {3, 3}, {0, 99}};
        for (int[] place : outside) {
            GlkPanes x = Play.root(6, 3, GRID);
            x.cursor(1, place[0], place[1]);
            x.ask(1, LINE, 40);
            Play.type(x, 1, "WX");
            x.type(1, END);
            Play.rows("nothing", x, 1, "", "", "");
            Play.cursor("one row on", x, 1, 0, place[1] + 1);
        }
    }

    @Says(ECHOED_IN_GRID)
    static void inAGridALineWithoutSignsMovesTheCursorAlone() {
        GlkPanes x = Play.root(6, 3, GRID);
        Play.write(x, 1, "abc");
        x.ask(1, LINE, 40);
        x.type(1, END);
        Play.rows("as it was", x, 1, "abc", "", "");
        Play.cursor("in the next row", x, 1, 0, 1);
    }

    private static final String CANCELLED_LINE = "CANCELLED, a LINE is ECHOED, too, but has no EVENT.";

    @Says(CANCELLED_LINE)
    static void aCancelledLineIsEchoedInAText() {
        GlkPanes x = Play.root(10, 3, TEXT);
        x.ask(1, LINE, 40);
        Play.type(x, 1, "go");
        x.cancel(1, LINE);
        Play.write(x, 1, "x");
        Play.rows("with an END", x, 1, "go", "x", "");
        Play.ink("in STYLE 8", x, 1, 0, 0, 'g', 8, 0);
        Due.is("no EVENT", x.count(WAITING), 0);
        Due.is("none is taken", x.take(), NONE);
    }

    @Says(CANCELLED_LINE)
    static void aCancelledLineIsEchoedInAGrid() {
        GlkPanes x = Play.root(10, 3, GRID);
        x.ask(1, LINE, 40);
        Play.type(x, 1, "go");
        x.cancel(1, LINE);
        Play.rows("its signs", x, 1, "go", "", "");
        Play.ink("in STYLE 8", x, 1, 0, 0, 'g', 8, 0);
        Play.cursor("in the next row", x, 1, 0, 1);
        Due.is("no EVENT", x.count(WAITING), 0);
    }

    /** As at its end: the pane has to do it. */
    @Says(CANCELLED_LINE)
    static void aCancelledLineOfAPaneThatDoesNotEchoIsGone() {
        for (int kind = TEXT; kind <= GRID; kind++) {
            GlkPanes x = Play.root(10, 3, kind);
            x.echo(1, false);
            x.ask(1, LINE, 40);
            Play.type(x, 1, "go");
            x.cancel(1, LINE);
            Play.rows("nothing", x, 1, "", "", "");
            Due.is("nothing is WRITTEN", x.pane(1, WRITTEN), 0);
        }
    }

    /** A GRID, 4, of 8 columns and 3 rows at 12, 6 of a screen; 1 is a TEXT at its left, 2 one above it. */
    private static GlkPanes corner() {
        GlkPanes x = Play.split(20, 9, RIGHT, 8, TEXT);
        x.open(2, BELOW, 3, GRID);
        return x;
    }

    private static final String CLICKS = "THE PLAYER CLICKS a place of THE SCREEN: of a GRID that asks for CLICK: "
        + "EVENT 3 with column and row in it;";

    @Says(CLICKS)
    static void aClickTellsColumnAndRowInTheGrid() {
        int[][] places = {{12, 6, 0, 0}, {19, 8, 7, 2}, {14, 7, 2, 1}};
        for (int[] p : places) {
            GlkPanes x = corner();
            x.ask(4, CLICK, 0);
            Due.is("click(" + p[0] + ", " + p[1] + ")", x.click(p[0], p[1]), 1);
            Play.event("in the GRID", x, 3, 4, p[2], p[3]);
        }
    }

    @Says(CLICKS)
    static void aClickBesidesTheGridIsNothing() {
        GlkPanes x = corner();
        x.ask(4, CLICK, 0);
        int[][] besides = {{11, 6}, {12, 5}, {10, 8}, {19, 4}, {0, 0}};
        for (int[] p : besides) {
            Due.is("click(" + p[0] + ", " + p[1] + ")", x.click(p[0], p[1]), 0);
        }
        Due.is("it asks still", x.cancel(4, CLICK), 1);
    }

    @Says(CLICKS)
    static void aClickGoesAheadOfALink() {
        GlkPanes x = Play.root(6, 3, GRID);
        x.link(1, 5);
        x.sign(1, 'a');
        x.ask(1, LINK, 0);
        x.ask(1, CLICK, 0);
        x.click(0, 0);
        Play.event("CLICK", x, 3, 1, 0, 0);
        Due.is("the LINK is asked for still", x.cancel(1, LINK), 1);
    }

    private static final String LINKS = "else, if what stands there has a LINK, and its pane asks for LINK: EVENT 2 with it;";

    @Says(LINKS)
    static void aClickOnALinkTellsIt() {
        int[] links = {1, 999};
        for (int kind = TEXT; kind <= GRID; kind++) {
            for (int link : links) {
                GlkPanes x = Play.root(6, 3, kind);
                x.link(1, link);
                Play.write(x, 1, "a b");
                x.ask(1, LINK, 0);
                Due.is("a 32 with a LINK", x.click(1, 0), 1);
                Play.event("LINK", x, 2, 1, link, 0);
            }
        }
    }

    @Says(LINKS)
    static void aLinkIsWhereItsSignIsWrappedTo() {
        GlkPanes x = Play.split(10, 5, LEFT, 3, GRID);
        Play.write(x, 1, "see the ");
        x.link(1, 12);
        Play.write(x, 1, "lamp");
        x.ask(1, LINK, 0);
        Due.is("ahead of it", x.click(4, 1), 0);
        Due.is("in the third row", x.click(4, 2), 1);
        Play.event("LINK", x, 2, 1, 12, 0);
    }

    @Says("else nothing.")
    static void aClickWithoutALinkIsNothing() {
        for (int kind = TEXT; kind <= GRID; kind++) {
            GlkPanes x = Play.root(6, 3, kind);
            Play.write(x, 1, "a");
            x.link(1, 5);
            Play.write(x, 1, "b");
            Due.is("not asked for", x.click(1, 0), 0);
            x.ask(1, LINK, 0);
            Due.is("a sign without a LINK", x.click(0, 0), 0);
            Due.is("where nothing stands", x.click(5, 2), 0);
            Due.is("no EVENT", x.count(WAITING), 0);
            Due.is("it is asked for still", x.cancel(1, LINK), 1);
        }
    }

    @Says("else nothing.")
    static void aClickOnWhatHasNoSignsIsNothing() {
        GlkPanes x = Play.allKinds();
        x.link(4, 5);
        x.link(6, 5);
        x.picture(4, 1);
        Due.is("PICTURE", x.click(0, 11), 0);
        Due.is("BLANK", x.click(40, 11), 0);
        Due.is("BORDER", x.click(20, 0), 0);
        Due.is("no ROOT", new GlkPanes(6, 3).click(0, 0), 0);
    }

    @Says("else nothing.")
    static void aClickOnALineThatIsTypedHasNoLink() {
        for (int kind = TEXT; kind <= GRID; kind++) {
            GlkPanes x = Play.root(6, 3, kind);
            x.link(1, 5);
            x.ask(1, LINK, 0);
            x.ask(1, LINE, 5);
            Play.type(x, 1, "ab");
            Due.is("its LINK is 0", x.click(0, 0), 0);
        }
    }

    @Says("THE SCREEN's size: EVENT 4, with W and H (pane 0).")
    static void anotherSizeIsAnEvent() {
        GlkPanes x = Play.root(6, 3, TEXT);
        x.resize(30, 10);
        Play.event("its size", x, 4, 0, 30, 10);
        x.resize(99, -5);
        Play.event("the nearest", x, 4, 0, 60, 2);
    }

    private static final String IN_A_ROW = "EVENTS wait in a row, 20 at most; with a 21st the oldest one goes.";

    private static void press(GlkPanes x, int c) {
        x.ask(1, KEY, 0);
        Due.is("type(1, " + c + ")", x.type(1, c), 1);
    }

    @Says(IN_A_ROW)
    static void twentyEventsWait() {
        GlkPanes x = Play.root(6, 3, TEXT);
        for (int i = 0; i < 20; i++) {
            Due.is("waiting", x.count(WAITING), i);
            press(x, 40 + i);
        }
        Due.is("20", x.count(WAITING), 20);
        for (int i = 0; i < 20; i++) {
            Due.is("take()", x.take(), 0);
            Due.is("in their order", x.event(2), 40 + i);
        }
        Due.is("no more", x.take(), NONE);
    }

    @Says(IN_A_ROW)
    static void aTwentyFirstTakesTheOldest() {
        GlkPanes x = Play.root(6, 3, TEXT);
        for (int i = 0; i < 21; i++) {
            press(x, 40 + i);
        }
        Due.is("20", x.count(WAITING), 20);
        for (int i = 1; i < 21; i++) {
            Due.is("take()", x.take(), 0);
            Due.is("the first one is gone", x.event(2), 40 + i);
        }
        Due.is("no more", x.take(), NONE);
    }

    @Says(IN_A_ROW)
    static void eventsWaitInARowAgainAndAgain() {
        GlkPanes x = Play.root(6, 3, TEXT);
        int taken = 0;
        int came = 0;
        for (int round = 0; round < 6; round++) {
            for (int i = 0; i < 13; i++) {
                press(x, 33 + came++);
            }
            for (int i = 0; i < 12; i++) {
                Due.is("take()", x.take(), 0);
                Due.is("the oldest", x.event(2), 33 + taken++);
            }
        }
        Due.is("what waits", x.count(WAITING), came - taken);
    }

    @Says("TAKING the oldest one makes it the one that is told.")
    static void theOneThatWasTakenIsTold() {
        GlkPanes x = Play.root(6, 3, TEXT);
        press(x, 'a');
        x.resize(30, 10);
        Due.is("none is told yet", x.event(0), NONE);
        x.take();
        Due.is("the oldest", x.event(0), 0);
        Due.is("its sign", x.event(2), 'a');
        x.take();
        Due.is("the next", x.event(0), 4);
        Due.is("its columns", x.event(2), 30);
    }

    @Says("TAKING the oldest one makes it the one that is told.")
    static void whatComesLaterDoesNotChangeTheOneThatIsTold() {
        GlkPanes x = Play.root(6, 3, TEXT);
        x.ask(1, LINE, 5);
        Play.type(x, 1, "abc");
        x.type(1, END);
        x.take();
        for (int i = 0; i < 25; i++) {
            press(x, 40 + i);
        }
        x.close(1);
        Due.is("its kind", x.event(0), 1);
        Due.is("its pane", x.event(1), 1);
        Due.is("how many signs", x.event(2), 3);
        Due.is("its last sign", x.event(6), 'c');
    }

    @Says("TAKING the oldest one makes it the one that is told.")
    static void whenNoneIsTakenTheLastOneIsToldStill() {
        GlkPanes x = Play.root(6, 3, TEXT);
        press(x, 'a');
        x.take();
        Due.is("no more", x.take(), NONE);
        Due.is("its sign", x.event(2), 'a');
    }

    @Says("4 DRAWN is THE SCREEN: a BORDER between columns as 124, between rows as 45;")
    static void bordersAreDrawn() {
        Play.screen("columns", Play.split(6, 3, LEFT, 2, TEXT), "  |   ", "  |   ", "  |   ");
        Play.screen("rows", Play.split(6, 3, ABOVE, 1, TEXT), "      ", "------", "      ");
        GlkPanes x = Play.split(6, 3, LEFT, 2, TEXT);
        x.open(1, BELOW, 1, TEXT);
        Play.screen("both", x, "  |   ", "  |---", "  |   ");
    }

    @Says("4 DRAWN is THE SCREEN: a BORDER between columns as 124, between rows as 45;")
    static void aBorderWithoutRoomForItsSidesIsDrawn() {
        GlkPanes x = Play.split(4, 2, LEFT, 1, TEXT);
        x.open(2, LEFT, 1, TEXT);
        Play.screen("the first column is the inner BORDER", x, "||  ", "||  ");
        GlkPanes y = Play.split(4, 2, ABOVE, 1, TEXT);
        y.arrange(3, ABOVE, 0, 0);
        Play.screen("at the begin", y, "----", "    ");
    }

    @Says("BLANK 32;")
    static void aBlankIsDrawnAs32() {
        Play.screen("BLANK", Play.root(4, 2, BLANK), "    ", "    ");
    }

    @Says("PICTURE 35 (32 with NUMBER 0);")
    static void aPictureIsDrawnByItsNumber() {
        GlkPanes x = Play.root(4, 2, PICTURE);
        Play.screen("at first", x, "    ", "    ");
        x.picture(1, 1);
        Play.screen("1", x, "####", "####");
        x.picture(1, 999);
        Play.screen("999", x, "####", "####");
        x.picture(1, 0);
        Play.screen("0", x, "    ", "    ");
    }

    @Says("TEXT and GRID their signs, 32 where nothing stands.")
    static void textAndGridAreDrawnWithTheirSigns() {
        GlkPanes x = Play.split(8, 3, LEFT, 3, GRID);
        Play.write(x, 1, "~ab cd");
        x.cursor(2, 1, 2);
        Play.write(x, 2, "!");
        Play.screen("both", x, "   |~ab ", "   |cd  ", " ! |    ");
    }

    @Says("TEXT and GRID their signs, 32 where nothing stands.")
    static void aLineThatIsTypedIsDrawnToo() {
        GlkPanes x = Play.split(8, 3, LEFT, 3, GRID);
        x.ask(1, LINE, 9);
        x.ask(2, LINE, 9);
        Play.type(x, 1, "a b");
        Play.type(x, 2, "wxyz");
        Play.screen("both", x, "wxy|a b ", "   |    ", "   |    ");
    }

    @Says("(Without a ROOT all is 32.)")
    static void withoutARootAllIs32() {
        GlkPanes x = new GlkPanes(4, 2);
        Play.screen("at first", x, "    ", "    ");
        x.open(0, 0, 0, GRID);
        Play.write(x, 1, "abcdefgh");
        x.close(1);
        Play.screen("with all closed", x, "    ", "    ");
    }
}
