/** Promises 9 to 19, sentence by sentence: the calls for signs. */
public final class SignPromisesTest implements Terms {
    public static void main(String[] args) {
        Sentences.run(SignPromisesTest.class);
    }

    private static final String LINE_THERE = "or a LINE is asked for there.";

    /** A screen of a KIND alone, with an ASK. */
    private static GlkPanes asked(int kind, int ask) {
        GlkPanes x = Play.root(10, 3, kind);
        Due.is("ask(1, " + ask + ", 5)", x.ask(1, ask, 5), 1);
        return x;
    }

    @Says(promise = 9, value = "A sign is written to a pane: 1.")
    static void signIsWritten() {
        int[] signs = {32, 33, 'a', 125, 126};
        for (int kind = TEXT; kind <= GRID; kind++) {
            GlkPanes x = Play.root(10, 3, kind);
            for (int i = 0; i < signs.length; i++) {
                Due.is("sign(1, " + signs[i] + ")", x.sign(1, signs[i]), 1);
                Due.is("it is shown", x.shown(1, i, 0, 0), signs[i]);
                Due.is("WRITTEN", x.pane(1, WRITTEN), i + 1);
            }
        }
    }

    @Says(promise = 9, value = "A sign is written to a pane: 1.")
    static void signOfAnEndIsWrittenToo() {
        for (int kind = TEXT; kind <= GRID; kind++) {
            GlkPanes x = Play.root(10, 3, kind);
            Due.is("sign(1, 10)", x.sign(1, END), 1);
            Due.is("WRITTEN", x.pane(1, WRITTEN), 1);
            Due.is("the next one", x.sign(1, 'a'), 1);
            Due.is("in the next row", x.shown(1, 0, 1, 0), 'a');
        }
    }

    @Says(promise = 9, value = "A sign is written to a pane: 1.")
    static void signOfAPaneWithoutRoomIsWritten() {
        for (int kind = TEXT; kind <= GRID; kind++) {
            GlkPanes x = Play.split(20, 9, LEFT, 0, kind);
            Due.is("sign(2, 97)", x.sign(2, 'a'), 1);
            Due.is("WRITTEN", x.pane(2, WRITTEN), 1);
        }
    }

    @Says(promise = 9, value = "A sign is written to a pane: 1.")
    static void signIsWrittenToItsPaneAlone() {
        GlkPanes x = Play.split(20, 9, LEFT, 5, TEXT);
        x.sign(2, 'a');
        Due.is("in its pane", x.shown(2, 0, 0, 0), 'a');
        Due.is("not in the other", x.shown(1, 0, 0, 0), 32);
        Due.is("WRITTEN of the other", x.pane(1, WRITTEN), 0);
    }

    @Says(promise = 9, value = "BAD;")
    static void signOfNoSignOrNoOpenPaneIsBad() {
        int[] bad = {LEAST_INT, -1, 0, 8, 9, 11, 13, 31, 127, 128, 256 + 'a', MOST_INT};
        for (int kind = TEXT; kind <= GRID; kind++) {
            GlkPanes x = Play.root(10, 3, kind);
            for (int c : bad) {
                Due.is("sign(1, " + c + ")", x.sign(1, c), BAD);
            }
            Due.is("nothing is WRITTEN", x.pane(1, WRITTEN), 0);
        }
        Play.badOfNoOpenPane("sign", 1, 'a');
    }

    @Says(promise = 9, value = "NOT: a PAIR, BLANK, PICTURE,")
    static void signToWhatTakesNoneCanNotBe() {
        GlkPanes x = Play.allKinds();
        for (int n : Play.WITHOUT_SIGNS) {
            Due.is("sign(" + n + ", 97)", x.sign(n, 'a'), NOT);
            Due.is("sign(" + n + ", 10)", x.sign(n, END), NOT);
            Due.is("nothing is WRITTEN", x.pane(n, WRITTEN), 0);
        }
    }

    @Says(promise = 9, value = LINE_THERE)
    static void signBesideALineCanNotBe() {
        for (int kind = TEXT; kind <= GRID; kind++) {
            GlkPanes x = asked(kind, LINE);
            Due.is("sign(1, 97)", x.sign(1, 'a'), NOT);
            Due.is("sign(1, 10)", x.sign(1, END), NOT);
            Due.is("nothing is WRITTEN", x.pane(1, WRITTEN), 0);
            x.type(1, END);
            Due.is("when it has ended", x.sign(1, 'a'), 1);
        }
    }

    @Says(promise = 9, value = LINE_THERE)
    static void signBesideOtherAsksOrALineElsewhereCanBe() {
        Due.is("KEY of a TEXT", asked(TEXT, KEY).sign(1, 'a'), 1);
        Due.is("LINK of a TEXT", asked(TEXT, LINK).sign(1, 'a'), 1);
        Due.is("KEY of a GRID", asked(GRID, KEY).sign(1, 'a'), 1);
        Due.is("LINK of a GRID", asked(GRID, LINK).sign(1, 'a'), 1);
        Due.is("CLICK of a GRID", asked(GRID, CLICK).sign(1, 'a'), 1);
        GlkPanes x = Play.split(20, 9, LEFT, 5, GRID);
        x.ask(2, LINE, 5);
        Due.is("a LINE of another pane", x.sign(1, 'a'), 1);
    }

    @Says(promise = 10, value = "A STYLE, from now on: which it was.")
    static void styleTellsWhichItWas() {
        for (int n : Play.LEAVES) {
            GlkPanes x = Play.allKinds();
            int was = 0;
            for (int s = 10; s >= 0; s--) {
                Due.is("style(" + n + ", " + s + ")", x.style(n, s), was);
                Due.is("its STYLE", x.pane(n, STYLE_OF), s);
                was = s;
            }
        }
    }

    @Says(promise = 10, value = "A STYLE, from now on: which it was.")
    static void styleIsOfSignsFromNowOn() {
        for (int kind = TEXT; kind <= GRID; kind++) {
            GlkPanes x = Play.root(10, 3, kind);
            x.sign(1, 'a');
            x.style(1, 10);
            x.sign(1, 'b');
            Play.ink("ahead of it", x, 1, 0, 0, 'a', 0, 0);
            Play.ink("from now on", x, 1, 1, 0, 'b', 10, 0);
        }
    }

    @Says(promise = 10, value = "A STYLE, from now on: which it was.")
    static void styleIsOfItsPaneAlone() {
        GlkPanes x = Play.allKinds();
        x.style(1, 7);
        Due.is("of the GRID", x.style(2, 8), 0);
        Due.is("of the TEXT", x.pane(1, STYLE_OF), 7);
    }

    @Says(promise = 10, value = "A STYLE, from now on: which it was.")
    static void styleMayComeBesideALine() {
        GlkPanes x = asked(TEXT, LINE);
        Due.is("style(1, 3)", x.style(1, 3), 0);
        Play.type(x, 1, "a");
        Play.ink("the LINE's own", x, 1, 0, 0, 'a', 8, 0);
    }

    @Says(promise = 10, value = "BAD;")
    static void styleOutsideOrOfNoOpenPaneIsBad() {
        GlkPanes x = Play.allKinds();
        int[] bad = {LEAST_INT, -1, 11, 12, MOST_INT};
        for (int s : bad) {
            for (int n = 1; n <= 7; n++) {
                Due.is("style(" + n + ", " + s + ")", x.style(n, s), BAD);
                Due.is("its STYLE", x.pane(n, STYLE_OF), 0);
            }
        }
        Play.badOfNoOpenPane("style", 1, 5);
    }

    @Says(promise = 10, value = "NOT: a PAIR.")
    static void styleOfAPairCanNotBe() {
        GlkPanes x = Play.allKinds();
        for (int n : Play.PAIRS) {
            Due.is("style(" + n + ", 0)", x.style(n, 0), NOT);
            Due.is("style(" + n + ", 10)", x.style(n, 10), NOT);
            Due.is("its STYLE", x.pane(n, STYLE_OF), 0);
        }
    }

    @Says(promise = 11, value = "A LINK, from now on: which it was.")
    static void linkTellsWhichItWas() {
        int[] links = {999, 998, 1, 512, 0, 5};
        for (int n : Play.LEAVES) {
            GlkPanes x = Play.allKinds();
            int was = 0;
            for (int v : links) {
                Due.is("link(" + n + ", " + v + ")", x.link(n, v), was);
                Due.is("its LINK", x.pane(n, LINK_OF), v);
                was = v;
            }
        }
    }

    @Says(promise = 11, value = "A LINK, from now on: which it was.")
    static void linkIsOfSignsFromNowOn() {
        for (int kind = TEXT; kind <= GRID; kind++) {
            GlkPanes x = Play.root(10, 3, kind);
            x.sign(1, 'a');
            x.link(1, 999);
            x.sign(1, 'b');
            x.link(1, 0);
            x.sign(1, 'c');
            Play.ink("ahead of it", x, 1, 0, 0, 'a', 0, 0);
            Play.ink("from now on", x, 1, 1, 0, 'b', 0, 999);
            Play.ink("until another one", x, 1, 2, 0, 'c', 0, 0);
        }
    }

    @Says(promise = 11, value = "A LINK, from now on: which it was.")
    static void linkIsOfItsPaneAlone() {
        GlkPanes x = Play.allKinds();
        x.link(1, 7);
        Due.is("of the GRID", x.link(2, 8), 0);
        Due.is("of the TEXT", x.pane(1, LINK_OF), 7);
    }

    @Says(promise = 11, value = "BAD;")
    static void linkOutsideOrOfNoOpenPaneIsBad() {
        GlkPanes x = Play.allKinds();
        int[] bad = {LEAST_INT, -1, 1000, 1001, MOST_INT};
        for (int v : bad) {
            for (int n = 1; n <= 7; n++) {
                Due.is("link(" + n + ", " + v + ")", x.link(n, v), BAD);
                Due.is("its LINK", x.pane(n, LINK_OF), 0);
            }
        }
        Play.badOfNoOpenPane("link", 1, 5);
    }

    @Says(promise = 11, value = "NOT: a PAIR.")
    static void linkOfAPairCanNotBe() {
        GlkPanes x = Play.allKinds();
        for (int n : Play.PAIRS) {
            Due.is("link(" + n + ", 0)", x.link(n, 0), NOT);
            Due.is("link(" + n + ", 999)", x.link(n, 999), NOT);
            Due.is("its LINK", x.pane(n, LINK_OF), 0);
        }
    }

    private static final String IN_THE_GRID = "A GRID's CURSOR: 1 if it lies in the GRID then, else 0.";

    @Says(promise = 12, value = IN_THE_GRID)
    static void cursorInTheGridTellsOne() {
        GlkPanes x = Play.root(6, 3, GRID);
        for (int y = 0; y < 3; y++) {
            for (int i = 0; i < 6; i++) {
                Due.is("cursor(1, " + i + ", " + y + ")", x.cursor(1, i, y), 1);
                Play.cursor("there", x, 1, i, y);
            }
        }
        x.sign(1, 'z');
        Due.is("the next sign is written there", x.shown(1, 5, 2, 0), 'z');
    }

    @Says(promise = 12, value = IN_THE_GRID)
    static void cursorOutsideOfTheGridTellsZero() {
        GlkPanes x = Play.root(6, 3, GRID);
        int[][] outside = {{6, 0}, {6, 2}, {0, 3}, {5, 3}, {6, 3}, {99, 0}, {0, 99}, {99, 99}};
        for (int[] place : outside) {
            Due.is("cursor(1, " + place[0] + ", " + place[1] + ")", x.cursor(1, place[0], place[1]), 0);
            Play.cursor("it is there all the same", x, 1, place[0], place[1]);
        }
    }

    @Says(promise = 12, value = IN_THE_GRID)
    static void cursorIsToldByTheSizeThatTheGridHasThen() {
        GlkPanes x = Play.root(6, 3, GRID);
        x.resize(20, 10);
        Due.is("larger", x.cursor(1, 19, 9), 1);
        x.resize(6, 3);
        Due.is("smaller", x.cursor(1, 19, 9), 0);
        Due.is("of a GRID without room", Play.split(20, 9, LEFT, 0, GRID).cursor(2, 0, 0), 0);
    }

    @Says(promise = 12, value = "BAD: x, y not 0 .. 99;")
    static void cursorFarOutsideIsBad() {
        int[] bad = {LEAST_INT, -1, 100, 101, MOST_INT};
        GlkPanes x = Play.root(6, 3, GRID);
        x.cursor(1, 2, 1);
        for (int b : bad) {
            Due.is("x " + b, x.cursor(1, b, 0), BAD);
            Due.is("y " + b, x.cursor(1, 0, b), BAD);
            Due.is("both " + b, x.cursor(1, b, b), BAD);
        }
        Play.cursor("it stays", x, 1, 2, 1);
        Play.badOfNoOpenPane("cursor", 2, 0, 0);
    }

    @Says(promise = 12, value = "NOT: no GRID,")
    static void cursorOfNoGridCanNotBe() {
        GlkPanes x = Play.allKinds();
        Due.is("TEXT", x.cursor(1, 0, 0), NOT);
        for (int n : Play.WITHOUT_SIGNS) {
            Due.is("cursor(" + n + ", 0, 0)", x.cursor(n, 0, 0), NOT);
            Due.is("cursor(" + n + ", 99, 99)", x.cursor(n, 99, 99), NOT);
        }
    }

    @Says(promise = 12, value = LINE_THERE)
    static void cursorBesideALineCanNotBe() {
        GlkPanes x = asked(GRID, LINE);
        Due.is("cursor(1, 2, 1)", x.cursor(1, 2, 1), NOT);
        Play.cursor("it stays", x, 1, 0, 0);
        x.cancel(1, LINE);
        Due.is("when it has ended", x.cursor(1, 2, 1), 1);
        Due.is("with a KEY", asked(GRID, KEY).cursor(1, 2, 1), 1);
        Due.is("with a LINK", asked(GRID, LINK).cursor(1, 2, 1), 1);
        Due.is("with a CLICK", asked(GRID, CLICK).cursor(1, 2, 1), 1);
    }

    @Says(promise = 13, value = "A GRID's CURSOR: axis 0 its column, 1 its row.")
    static void atTellsColumnAndRow() {
        GlkPanes x = Play.root(6, 3, GRID);
        Due.is("column at first", x.at(1, 0), 0);
        Due.is("row at first", x.at(1, 1), 0);
        x.cursor(1, 4, 2);
        Due.is("column", x.at(1, 0), 4);
        Due.is("row", x.at(1, 1), 2);
        x.cursor(1, 98, 99);
        Due.is("column outside", x.at(1, 0), 98);
        Due.is("row outside", x.at(1, 1), 99);
    }

    /** What is typed does not move the CURSOR; what is ECHOED does. */
    @Says(promise = 13, value = "A GRID's CURSOR: axis 0 its column, 1 its row.")
    static void atTellsTheCursorBesideALineToo() {
        GlkPanes x = Play.root(6, 3, GRID);
        x.cursor(1, 2, 1);
        x.ask(1, LINE, 5);
        Play.type(x, 1, "ab");
        Due.is("column", x.at(1, 0), 2);
        Due.is("row", x.at(1, 1), 1);
        x.type(1, END);
        Due.is("column then", x.at(1, 0), 0);
        Due.is("row then", x.at(1, 1), 2);
    }

    @Says(promise = 13, value = "BAD;")
    static void atOfNoAxisOrNoOpenPaneIsBad() {
        GlkPanes x = Play.allKinds();
        int[] bad = {LEAST_INT, -1, 2, 3, MOST_INT};
        for (int axis : bad) {
            for (int n = 1; n <= 7; n++) {
                Due.is("at(" + n + ", " + axis + ")", x.at(n, axis), BAD);
            }
        }
        Play.badOfNoOpenPane("at", 2, 0);
        Play.badOfNoOpenPane("at", 2, 1);
    }

    @Says(promise = 13, value = "NOT: no GRID.")
    static void atOfNoGridCanNotBe() {
        GlkPanes x = Play.allKinds();
        for (int axis = 0; axis <= 1; axis++) {
            Due.is("TEXT", x.at(1, axis), NOT);
            for (int n : Play.WITHOUT_SIGNS) {
                Due.is("at(" + n + ", " + axis + ")", x.at(n, axis), NOT);
            }
        }
    }

    @Says(promise = 14, value = "A TEXT has no signs any more,")
    static void wipeTakesATextsSigns() {
        GlkPanes x = Play.root(6, 3, TEXT);
        x.style(1, 4);
        x.link(1, 5);
        Play.write(x, 1, "ab\ncd\n\n");
        Due.is("wipe(1)", x.wipe(1), 1);
        Due.is("no LINES", x.lines(1), 0);
        Play.rows("nothing is shown", x, 1, "", "", "");
        Play.ink("nothing stands there", x, 1, 0, 0, 32, 0, 0);
        Play.write(x, 1, "e");
        Play.rows("from the begin again", x, 1, "e", "", "");
        Play.ink("STYLE and LINK are as before", x, 1, 0, 0, 'e', 4, 5);
        Due.is("WRITTEN goes on", x.pane(1, WRITTEN), 8);
    }

    @Says(promise = 14, value = "A TEXT has no signs any more,")
    static void wipeOfATextWithoutSignsIsWell() {
        GlkPanes x = Play.root(6, 3, TEXT);
        Due.is("at first", x.wipe(1), 1);
        Due.is("again", x.wipe(1), 1);
        Due.is("no LINES", x.lines(1), 0);
    }

    @Says(promise = 14, value = "a GRID is blank (CURSOR 0, 0): 1.")
    static void wipeMakesAGridBlank() {
        GlkPanes x = Play.root(6, 3, GRID);
        x.style(1, 4);
        x.link(1, 5);
        Play.write(x, 1, "abcdefghijklmnopqr");
        Due.is("wipe(1)", x.wipe(1), 1);
        for (int y = 0; y < 3; y++) {
            for (int i = 0; i < 6; i++) {
                Play.ink("blank", x, 1, i, y, 32, 0, 0);
            }
        }
        Play.cursor("the first place", x, 1, 0, 0);
        Play.write(x, 1, "e");
        Play.ink("STYLE and LINK are as before", x, 1, 0, 0, 'e', 4, 5);
        Due.is("WRITTEN goes on", x.pane(1, WRITTEN), 19);
    }

    @Says(promise = 14, value = "a GRID is blank (CURSOR 0, 0): 1.")
    static void wipeBringsACursorBackFromOutside() {
        GlkPanes x = Play.root(6, 3, GRID);
        x.cursor(1, 99, 98);
        Due.is("wipe(1)", x.wipe(1), 1);
        Play.cursor("the first place", x, 1, 0, 0);
    }

    @Says(promise = 14, value = "BAD;")
    static void wipeOfNoOpenPaneIsBad() {
        Play.badOfNoOpenPane("wipe", 1);
        Play.badOfNoOpenPane("wipe", 2);
    }

    @Says(promise = 14, value = "NOT: another pane,")
    static void wipeOfAnotherPaneCanNotBe() {
        GlkPanes x = Play.allKinds();
        x.picture(4, 7);
        for (int n : Play.WITHOUT_SIGNS) {
            Due.is("wipe(" + n + ")", x.wipe(n), NOT);
        }
        Due.is("the PICTURE stays", x.picture(4, 0), 7);
    }

    @Says(promise = 14, value = LINE_THERE)
    static void wipeBesideALineCanNotBe() {
        for (int kind = TEXT; kind <= GRID; kind++) {
            GlkPanes x = Play.root(6, 3, kind);
            Play.write(x, 1, "ab");
            x.ask(1, LINE, 5);
            Play.type(x, 1, "c");
            Due.is("wipe(1)", x.wipe(1), NOT);
            Play.rows("all stays", x, 1, "abc", "", "");
            x.cancel(1, LINE);
            Due.is("when it has ended", x.wipe(1), 1);
            Due.is("with a KEY", asked(kind, KEY).wipe(1), 1);
            Due.is("with a LINK", asked(kind, LINK).wipe(1), 1);
        }
        Due.is("with a CLICK", asked(GRID, CLICK).wipe(1), 1);
    }

    @Says(promise = 15, value = "A PICTURE has a NUMBER, 0 .. 999 (0 at first): which it had.")
    static void pictureTellsWhichItHad() {
        GlkPanes x = Play.allKinds();
        int[] numbers = {999, 998, 1, 0, 0, 5};
        int had = 0;
        for (int n : numbers) {
            Due.is("picture(4, " + n + ")", x.picture(4, n), had);
            Due.is("it is drawn", x.drawn(0, 11), n == 0 ? 32 : 35);
            had = n;
        }
    }

    @Says(promise = 15, value = "A PICTURE has a NUMBER, 0 .. 999 (0 at first): which it had.")
    static void pictureIsOfItsPaneAlone() {
        GlkPanes x = Play.split(20, 9, LEFT, 16, PICTURE);
        x.open(1, RIGHT, 16, PICTURE);
        x.picture(2, 7);
        Due.is("the other one", x.picture(4, 8), 0);
        Due.is("the first one", x.picture(2, 9), 7);
    }

    @Says(promise = 15, value = "BAD;")
    static void pictureOfNoNumberOrNoOpenPaneIsBad() {
        GlkPanes x = Play.allKinds();
        int[] bad = {LEAST_INT, -1, 1000, 1001, MOST_INT};
        for (int number : bad) {
            for (int n = 1; n <= 7; n++) {
                Due.is("picture(" + n + ", " + number + ")", x.picture(n, number), BAD);
            }
        }
        Due.is("as at first", x.picture(4, 1), 0);
        Play.badOfNoOpenPane("picture", 4, 1);
    }

    @Says(promise = 15, value = "NOT: no PICTURE.")
    static void pictureOfNoPictureCanNotBe() {
        GlkPanes x = Play.allKinds();
        int[] others = {1, 2, 3, 5, 6, 7};
        for (int n : others) {
            Due.is("picture(" + n + ", 0)", x.picture(n, 0), NOT);
            Due.is("picture(" + n + ", 999)", x.picture(n, 999), NOT);
        }
    }

    private static final String SHOWN = "What is shown in a TEXT or GRID: what = 0 the sign (32: nothing), "
        + "1 its STYLE, 2 its LINK";

    @Says(promise = 16, value = SHOWN)
    static void shownTellsSignStyleAndLink() {
        for (int kind = TEXT; kind <= GRID; kind++) {
            GlkPanes x = Play.root(6, 3, kind);
            x.style(1, 10);
            x.link(1, 999);
            Play.write(x, 1, "a");
            x.style(1, 3);
            x.link(1, 7);
            Play.write(x, 1, "\n ~");
            Due.is("sign", x.shown(1, 0, 0, 0), 'a');
            Due.is("STYLE", x.shown(1, 0, 0, 1), 10);
            Due.is("LINK", x.shown(1, 0, 0, 2), 999);
            Play.ink("a 32 that was written", x, 1, 0, 1, 32, 3, 7);
            Play.ink("another one", x, 1, 1, 1, '~', 3, 7);
        }
    }

    @Says(promise = 16, value = SHOWN)
    static void shownIsAtPlacesOfThePane() {
        GlkPanes x = Play.split(20, 9, RIGHT, 5, GRID);
        x.open(2, BELOW, 3, TEXT);
        Play.write(x, 4, "abcde\nfghij\nklmno");
        Due.is("first place", x.shown(4, 0, 0, 0), 'a');
        Due.is("last place", x.shown(4, 4, 2, 0), 'o');
        Due.is("where it is drawn", x.drawn(19, 8), 'o');
    }

    @Says(promise = 16, value = "(both 0 where nothing stands).")
    static void shownWhereNothingStandsIsZero() {
        for (int kind = TEXT; kind <= GRID; kind++) {
            GlkPanes x = Play.root(6, 3, kind);
            x.style(1, 10);
            x.link(1, 999);
            Play.ink("at first", x, 1, 0, 0, 32, 0, 0);
            Play.write(x, 1, "ab");
            Play.ink("behind the last sign", x, 1, 2, 0, 32, 0, 0);
            Play.ink("in a row below", x, 1, 0, 1, 32, 0, 0);
            Play.ink("at the last place", x, 1, 5, 2, 32, 0, 0);
        }
    }

    /** An END is no sign that is shown, and a 32 that is in no LINE isn't, either. */
    @Says(promise = 16, value = "(both 0 where nothing stands).")
    static void shownBehindAWrappedLineIsZero() {
        GlkPanes x = Play.root(6, 3, TEXT);
        x.style(1, 10);
        x.link(1, 999);
        Play.write(x, 1, "ab\nabcd efg");
        Play.ink("where its END would be", x, 1, 2, 0, 32, 0, 0);
        Play.ink("where the 32 would be", x, 1, 4, 1, 32, 0, 0);
        Play.ink("the LINE behind it", x, 1, 0, 2, 'e', 10, 999);
    }

    @Says(promise = 16, value = "BAD: also x, y not in it;")
    static void shownOutsideOfThePaneIsBad() {
        GlkPanes x = Play.allKinds();
        int[] wild = {LEAST_INT, -1000, -1, 60, 1000, MOST_INT};
        for (int n = 1; n <= 7; n++) {
            int columns = x.pane(n, COLUMNS);
            int rows = x.pane(n, ROWS);
            Due.is("behind its columns: " + n, x.shown(n, columns, 0, 0), BAD);
            Due.is("behind its rows: " + n, x.shown(n, 0, rows, 0), BAD);
            for (int v : wild) {
                Due.is("x " + v + " of " + n, x.shown(n, v, 0, 0), BAD);
                Due.is("y " + v + " of " + n, x.shown(n, 0, v, 0), BAD);
            }
        }
    }

    @Says(promise = 16, value = "BAD: also x, y not in it;")
    static void shownOfNoFactOrNoOpenPaneIsBad() {
        GlkPanes x = Play.allKinds();
        int[] bad = {LEAST_INT, -1, 3, 4, MOST_INT};
        for (int what : bad) {
            for (int n = 1; n <= 7; n++) {
                Due.is("shown(" + n + ", 0, 0, " + what + ")", x.shown(n, 0, 0, what), BAD);
            }
        }
        Play.badOfNoOpenPane("shown", 1, 0, 0, 0);
    }

    @Says(promise = 16, value = "BAD: also x, y not in it;")
    static void shownInAPaneWithoutRoomIsBad() {
        for (int kind = TEXT; kind <= GRID; kind++) {
            GlkPanes x = Play.split(20, 9, LEFT, 0, kind);
            x.sign(2, 'a');
            Due.is("KIND " + kind, x.shown(2, 0, 0, 0), BAD);
        }
    }

    @Says(promise = 16, value = "NOT: another pane.")
    static void shownOfAnotherPaneCanNotBe() {
        GlkPanes x = Play.allKinds();
        for (int n : Play.WITHOUT_SIGNS) {
            for (int what = 0; what <= 2; what++) {
                Due.is("first place of " + n, x.shown(n, 0, 0, what), NOT);
                Due.is("last place of " + n, x.shown(n, x.pane(n, COLUMNS) - 1, x.pane(n, ROWS) - 1, what), NOT);
            }
        }
    }

    private static final String HOW_MANY_LINES = "How many LINES a TEXT has at its width, also those that are not shown";

    @Says(promise = 17, value = HOW_MANY_LINES)
    static void linesTellsHowManyAtTheWidth() {
        GlkPanes x = Play.root(12, 3, TEXT);
        Due.is("no sign", x.lines(1), 0);
        Play.write(x, 1, "the lamp is lit");
        Due.is("twelve columns", x.lines(1), 2);
        x.resize(8, 3);
        Due.is("eight columns", x.lines(1), 2);
        x.resize(7, 3);
        Due.is("seven columns", x.lines(1), 3);
        x.resize(4, 3);
        Due.is("four columns", x.lines(1), 4);
        x.resize(15, 3);
        Due.is("fifteen columns", x.lines(1), 1);
        x.resize(14, 3);
        Due.is("fourteen columns", x.lines(1), 2);
    }

    @Says(promise = 17, value = HOW_MANY_LINES)
    static void linesCountsThoseThatAreNotShown() {
        GlkPanes x = Play.root(12, 2, TEXT);
        Play.write(x, 1, "a\nb\nc\n\n\nd");
        Due.is("six, of which two are shown", x.lines(1), 6);
        Play.rows("the last ones", x, 1, "", "d");
        Play.write(x, 1, "\n");
        Due.is("one more behind an END", x.lines(1), 7);
    }

    /** 400 signs and a LINE of 40 in a column: the most that there can be. */
    @Says(promise = 17, value = HOW_MANY_LINES)
    static void linesCountsAllOfATextThatIsFull() {
        GlkPanes x = Play.split(20, 9, LEFT, 1, TEXT);
        for (int i = 0; i < 400; i++) {
            x.sign(2, i % 2 == 0 ? 'a' : END);
        }
        Due.is("200 PARAGRAPHS and one more", x.lines(2), 201);
        x.ask(2, LINE, 40);
        for (int i = 0; i < 40; i++) {
            x.type(2, 'b');
        }
        Due.is("with the LINE", x.lines(2), 240);
        GlkPanes y = Play.split(20, 9, LEFT, 1, TEXT);
        for (int i = 0; i < 400; i++) {
            y.sign(2, END);
        }
        y.ask(2, LINE, 40);
        for (int i = 0; i < 40; i++) {
            y.type(2, 'b');
        }
        Due.is("400 ENDS and 40 signs", y.lines(2), 440);
        Due.is("the last sign", y.shown(2, 0, 8, 0), 'b');
    }

    @Says(promise = 17, value = "(0, if it has no room).")
    static void linesOfATextWithoutRoomIsZero() {
        int[] sides = {LEFT, RIGHT, ABOVE, BELOW};
        for (int side : sides) {
            GlkPanes x = Play.split(20, 9, side, 0, TEXT);
            Play.write(x, 2, "ab\ncd");
            Due.is("by " + side, x.lines(2), 0);
            x.ask(2, LINE, 5);
            x.type(2, 'a');
            Due.is("with a LINE, by " + side, x.lines(2), 0);
            x.arrange(3, side, 4, 0);
            Due.is("with room again, by " + side, x.lines(2), 2);
        }
    }

    @Says(promise = 17, value = "BAD;")
    static void linesOfNoOpenPaneIsBad() {
        Play.badOfNoOpenPane("lines", 1);
    }

    @Says(promise = 17, value = "NOT: no TEXT.")
    static void linesOfNoTextCanNotBe() {
        GlkPanes x = Play.allKinds();
        Due.is("GRID", x.lines(2), NOT);
        for (int n : Play.WITHOUT_SIGNS) {
            Due.is("lines(" + n + ")", x.lines(n), NOT);
        }
        Due.is("a GRID without room", Play.split(20, 9, LEFT, 0, GRID).lines(2), NOT);
    }

    @Says(promise = 18, value = "DRAWN at a place.")
    static void drawnTellsWhatStandsAtAPlace() {
        GlkPanes x = Play.split(10, 4, RIGHT, 3, GRID);
        x.open(2, BELOW, 16, PICTURE);
        x.open(1, BELOW + SHARE, 25, BLANK);
        x.picture(4, 1);
        Play.write(x, 1, "a b");
        Play.write(x, 2, "xyz");
        Play.screen("all of it", x, "a b   |xyz", "      |   ", "------|---", "      |###");
    }

    @Says(promise = 18, value = "DRAWN at a place.")
    static void drawnFollowsAnotherSize() {
        GlkPanes x = Play.split(10, 3, RIGHT, 3, GRID);
        Play.write(x, 1, "one two");
        Play.write(x, 2, "xyz");
        Play.screen("ten columns", x, "one   |xyz", "two   |   ", "      |   ");
        x.resize(11, 2);
        Play.screen("eleven columns", x, "one two|xyz", "       |   ");
        x.resize(5, 2);
        Play.screen("five columns", x, "w|xyz", "o|   ");
    }

    @Says(promise = 18, value = "BAD.")
    static void drawnOutsideIsBad() {
        GlkPanes x = Play.split(10, 4, RIGHT, 3, GRID);
        Play.badOutside("drawn", x, 10, 4);
        Play.badOutside("drawn", new GlkPanes(10, 4), 10, 4);
        Play.badOutside("drawn", new GlkPanes(99, 99), 60, 24);
    }

    @Says(promise = 19, value = "Which pane (no PAIR) has a place;")
    static void underTellsThePane() {
        GlkPanes x = Play.allKinds();
        int[][] due = {{0, 0, 1}, {19, 7, 1}, {0, 9, 4}, {19, 11, 4}, {21, 0, 2}, {40, 4, 2}, {21, 6, 6}, {40, 11, 6}};
        for (int[] d : due) {
            Due.is("under(" + d[0] + ", " + d[1] + ")", x.under(d[0], d[1]), d[2]);
        }
    }

    @Says(promise = 19, value = "Which pane (no PAIR) has a place;")
    static void underTellsARootOfEachKind() {
        for (int kind = BLANK; kind <= PICTURE; kind++) {
            GlkPanes x = Play.root(6, 3, kind);
            Due.is("first place", x.under(0, 0), 1);
            Due.is("last place", x.under(5, 2), 1);
        }
    }

    @Says(promise = 19, value = "Which pane (no PAIR) has a place;")
    static void underTellsNoPaneWithoutRoom() {
        GlkPanes x = Play.split(6, 3, LEFT + NO_BORDER, 0, GRID);
        Due.is("the other side has all", x.under(0, 0), 1);
        GlkPanes y = Play.split(6, 3, LEFT + NO_BORDER + SHARE, 100, GRID);
        Due.is("the new one has all", y.under(5, 2), 2);
    }

    @Says(promise = 19, value = "NONE: a BORDER,")
    static void underABorderIsNone() {
        GlkPanes x = Play.allKinds();
        for (int y = 0; y < 12; y++) {
            Due.is("between columns", x.under(20, y), NONE);
        }
        for (int i = 0; i < 20; i++) {
            Due.is("between rows, at the left", x.under(i, 8), NONE);
            Due.is("between rows, at the right", x.under(21 + i, 5), NONE);
        }
    }

    @Says(promise = 19, value = "or no ROOT.")
    static void underWithoutARootIsNone() {
        GlkPanes x = new GlkPanes(6, 3);
        Due.is("at first", x.under(0, 0), NONE);
        Due.is("at the last place", x.under(5, 2), NONE);
        x.open(0, 0, 0, TEXT);
        x.close(1);
        Due.is("with all closed", x.under(0, 0), NONE);
    }

    @Says(promise = 19, value = "BAD.")
    static void underOutsideIsBad() {
        Play.badOutside("under", Play.split(10, 4, RIGHT, 3, GRID), 10, 4);
        Play.badOutside("under", new GlkPanes(10, 4), 10, 4);
        Play.badOutside("under", new GlkPanes(99, 99), 60, 24);
    }
}
