/** Section 2 of the Terms, sentence by sentence: SIGNS, GRID, TEXT, LINES, WRITTEN. */
public final class SignTermsTest implements Terms {
    public static void main(String[] args) {
        Sentences.run(SignTermsTest.class);
    }

    private static void repeat(GlkPanes x, int pane, int c, int times) {
        for (int i = 0; i < times; i++) {
            Due.is("sign(" + pane + ", " + c + ")", x.sign(pane, c), 1);
        }
    }

    /** A TEXT of 40 columns and 11 rows, where 400 signs without an END or a 32 are just ten LINES. */
    private static GlkPanes wideText(String first) {
        GlkPanes x = Play.root(40, 11, TEXT);
        Play.write(x, 1, first);
        return x;
    }

    @Says("2 SIGNS are 32 .. 126, and 10, the END of a line.")
    static void signsAre32To126() {
        GlkPanes x = Play.root(60, 24, TEXT);
        for (int c = -5; c <= 300; c++) {
            boolean is = c == 10 || c >= 32 && c <= 126;
            Due.is("sign(1, " + c + ")", x.sign(1, c), is ? 1 : BAD);
        }
    }

    @Says("2 SIGNS are 32 .. 126, and 10, the END of a line.")
    static void tenEndsALine() {
        GlkPanes x = Play.root(10, 3, TEXT);
        Play.write(x, 1, "ab");
        Due.is("sign(1, 10)", x.sign(1, 10), 1);
        Play.write(x, 1, "c");
        Play.rows("a TEXT", x, 1, "ab", "c", "");
    }

    private static final String OF_THAT_TIME = "Each sign that is written has the pane's STYLE (0 .. 10, 0 at first) "
        + "and LINK (0 .. 999, 0: none, at first) of that time.";

    @Says(OF_THAT_TIME)
    static void signsAtFirstHaveNoStyleAndNoLink() {
        for (int kind = TEXT; kind <= GRID; kind++) {
            GlkPanes x = Play.root(10, 3, kind);
            x.sign(1, 'a');
            Play.ink("KIND " + kind, x, 1, 0, 0, 'a', 0, 0);
        }
    }

    @Says(OF_THAT_TIME)
    static void signsHaveTheStyleAndLinkOfTheirTime() {
        for (int kind = TEXT; kind <= GRID; kind++) {
            GlkPanes x = Play.root(10, 3, kind);
            x.style(1, 10);
            x.link(1, 999);
            x.sign(1, 'a');
            x.style(1, 1);
            x.sign(1, ' ');
            x.link(1, 1);
            x.sign(1, 'b');
            x.style(1, 0);
            x.link(1, 0);
            x.sign(1, '~');
            Play.ink("the most", x, 1, 0, 0, 'a', 10, 999);
            Play.ink("another STYLE, of a 32", x, 1, 1, 0, 32, 1, 999);
            Play.ink("another LINK", x, 1, 2, 0, 'b', 1, 1);
            Play.ink("none again", x, 1, 3, 0, '~', 0, 0);
        }
    }

    @Says("A GRID is blank at first (32, STYLE 0, LINK 0), with a CURSOR, at column 0 of row 0.")
    static void aGridIsBlankAtFirst() {
        for (int y = 0; y < 24; y++) {
            GlkPanes x = Play.root(60, 24, GRID);
            Play.cursor("at first", x, 1, 0, 0);
            for (int i = 0; i < 60; i++) {
                Play.ink("at first", x, 1, i, y, 32, 0, 0);
            }
        }
    }

    @Says("A sign is written there, if it lies in the GRID, and the CURSOR goes on by a column;")
    static void aSignIsWrittenAtTheCursor() {
        GlkPanes x = Play.root(6, 3, GRID);
        x.cursor(1, 2, 1);
        Play.write(x, 1, "ab");
        Play.rows("there alone", x, 1, "", "  ab", "");
        Play.cursor("two columns on", x, 1, 4, 1);
        x.cursor(1, 5, 2);
        Play.write(x, 1, "z");
        Play.rows("at the last place", x, 1, "", "  ab", "     z");
        Play.cursor("behind it", x, 1, 6, 2);
        x.cursor(1, 3, 1);
        Play.write(x, 1, "c");
        Play.rows("over another one", x, 1, "", "  ac", "     z");
    }

    @Says("A sign is written there, if it lies in the GRID, and the CURSOR goes on by a column;")
    static void aSignOutsideIsNotWritten() {
        GlkPanes x = Play.root(6, 3, GRID);
        x.cursor(1, 2, 3);
        Play.write(x, 1, "ab");
        Play.rows("nothing", x, 1, "", "", "");
        Play.cursor("two columns on", x, 1, 4, 3);
        x.resize(6, 4);
        Play.rows("nor later", x, 1, "", "", "", "");
    }

    private static final String NEXT_ROW = "at a column behind the last one it goes to the next row's first one, "
        + "before a sign is written there.";

    @Says(NEXT_ROW)
    static void behindTheLastColumnTheCursorWaitsForASign() {
        GlkPanes x = Play.root(4, 3, GRID);
        Play.write(x, 1, "abcd");
        Play.cursor("it waits", x, 1, 4, 0);
        Play.write(x, 1, "e");
        Play.rows("in the next row", x, 1, "abcd", "e", "");
        Play.cursor("behind it", x, 1, 1, 1);
    }

    @Says(NEXT_ROW)
    static void farBehindTheLastColumnTheCursorGoesToTheNextRow() {
        GlkPanes x = Play.root(4, 3, GRID);
        x.cursor(1, 99, 1);
        Play.write(x, 1, "e");
        Play.rows("in the next row", x, 1, "", "", "e");
        Play.cursor("behind it", x, 1, 1, 2);
    }

    @Says(NEXT_ROW)
    static void behindTheLastPlaceTheNextRowIsOutside() {
        GlkPanes x = Play.root(4, 3, GRID);
        x.cursor(1, 3, 2);
        Play.write(x, 1, "yz");
        Play.rows("the last place, and no more", x, 1, "", "", "   y");
        Play.cursor("it goes on", x, 1, 1, 3);
    }

    /** Column 0 is behind the last one, where there are none. */
    @Says(NEXT_ROW)
    static void inAGridWithoutColumnsEachSignGoesToTheNextRow() {
        GlkPanes x = Play.split(10, 4, LEFT, 0, GRID);
        Play.write(x, 2, "a");
        Play.cursor("one sign", x, 2, 1, 1);
        Play.write(x, 2, "b");
        Play.cursor("two signs", x, 2, 1, 2);
        x.arrange(3, LEFT, 5, 0);
        Play.rows("nothing was written", x, 2, "", "", "", "");
    }

    @Says("An END goes to the next row's first one.")
    static void anEndGoesToTheNextRow() {
        GlkPanes x = Play.root(4, 3, GRID);
        Play.write(x, 1, "ab\n");
        Play.cursor("from the middle", x, 1, 0, 1);
        Play.write(x, 1, "\n");
        Play.cursor("from the first column", x, 1, 0, 2);
        Play.write(x, 1, "\n");
        Play.cursor("from the last row", x, 1, 0, 3);
        Play.rows("it is not written itself", x, 1, "ab", "", "");
    }

    @Says("An END goes to the next row's first one.")
    static void anEndBehindTheLastColumnGoesOneRowOn() {
        GlkPanes x = Play.root(4, 3, GRID);
        Play.write(x, 1, "abcd\n");
        Play.cursor("one row", x, 1, 0, 1);
        Play.write(x, 1, "e");
        Play.rows("no row between", x, 1, "abcd", "e", "");
    }

    @Says("(In a row behind the last one nothing is written; the CURSOR goes on.)")
    static void behindTheLastRowTheCursorGoesOn() {
        GlkPanes x = Play.root(4, 3, GRID);
        x.cursor(1, 0, 99);
        Play.write(x, 1, "abcd");
        Play.cursor("along the row", x, 1, 4, 99);
        Play.write(x, 1, "e");
        Play.cursor("to the next one", x, 1, 1, 100);
        Play.write(x, 1, "\n");
        Play.cursor("by an END", x, 1, 0, 101);
        Play.rows("nothing is written", x, 1, "", "", "");
        Due.is("all came", x.pane(1, WRITTEN), 6);
    }

    @Says("When its size is another one, it keeps what still lies within;")
    static void aSmallerGridKeepsWhatLiesWithin() {
        GlkPanes x = Play.root(6, 4, GRID);
        x.style(1, 3);
        x.link(1, 5);
        Play.write(x, 1, "abcdefghijklmnopqrstuvwx");
        x.resize(4, 3);
        Play.rows("smaller", x, 1, "abcd", "ghij", "mnop");
        Play.ink("its last place", x, 1, 3, 2, 'p', 3, 5);
    }

    @Says("When its size is another one, it keeps what still lies within;")
    static void aLargerGridKeepsAll() {
        GlkPanes x = Play.root(4, 2, GRID);
        Play.write(x, 1, "abcdefgh");
        x.resize(60, 24);
        Due.is("first row's end", x.shown(1, 3, 0, 0), 'd');
        Due.is("second row's begin", x.shown(1, 0, 1, 0), 'e');
        Due.is("second row's end", x.shown(1, 3, 1, 0), 'h');
    }

    @Says("When its size is another one, it keeps what still lies within;")
    static void aGridWithAnotherPlaceKeepsAll() {
        GlkPanes x = Play.root(8, 4, GRID);
        Play.write(x, 1, "abc");
        x.open(1, LEFT, 2, TEXT);
        Play.rows("three columns to the right", x, 1, "abc", "", "", "");
        Due.is("drawn there", x.drawn(3, 0), 'a');
    }

    @Says("When its size is another one, it keeps what still lies within;")
    static void aGridWithoutRoomKeepsNothing() {
        GlkPanes x = Play.root(6, 3, GRID);
        Play.write(x, 1, "abcdefghijklmnopqr");
        x.open(1, LEFT + SHARE, 100, TEXT);
        Play.room("no room", x, 1, 0, 0, 0, 0);
        x.close(2);
        Play.rows("nothing", x, 1, "", "", "");
    }

    @Says("what is new is blank;")
    static void whatWasOutsideIsBlankWhenItIsWithinAgain() {
        GlkPanes x = Play.root(6, 4, GRID);
        x.style(1, 3);
        x.link(1, 5);
        Play.write(x, 1, "abcdefghijklmnopqrstuvwx");
        x.resize(5, 4);
        x.resize(6, 4);
        Play.ink("a new column", x, 1, 5, 0, 32, 0, 0);
        Play.ink("a new column's end", x, 1, 5, 3, 32, 0, 0);
        x.resize(6, 3);
        x.resize(6, 4);
        Play.ink("a new row", x, 1, 0, 3, 32, 0, 0);
        Play.ink("a new row's end", x, 1, 4, 3, 32, 0, 0);
        Play.rows("the rest", x, 1, "abcde", "ghijk", "mnopq", "");
    }

    @Says("what is new is blank;")
    static void whatWasAtTheEndOfTheLargestGridIsBlankWhenItIsWithinAgain() {
        GlkPanes x = Play.root(60, 24, GRID);
        int[][] places = {{59, 0}, {59, 22}, {0, 23}, {59, 23}};
        for (int[] p : places) {
            x.cursor(1, p[0], p[1]);
            x.sign(1, 'z');
        }
        x.resize(59, 23);
        x.resize(60, 24);
        for (int[] p : places) {
            Play.ink("new", x, 1, p[0], p[1], 32, 0, 0);
        }
    }

    @Says("the CURSOR stays.")
    static void theCursorStaysWithAnotherSize() {
        GlkPanes x = Play.root(20, 10, GRID);
        x.cursor(1, 19, 9);
        x.resize(4, 2);
        Play.cursor("outside", x, 1, 19, 9);
        Play.write(x, 1, "a");
        Play.cursor("a sign goes to the next row", x, 1, 1, 10);
        x.resize(60, 24);
        Play.cursor("within again", x, 1, 1, 10);
        Play.write(x, 1, "b");
        Due.is("written there", x.shown(1, 1, 10, 0), 'b');
    }

    private static final String KEEPS_400 = "A TEXT keeps 400 signs (with ENDS):";

    @Says(KEEPS_400)
    static void aTextKeepsItsFirstSignWith400() {
        GlkPanes x = wideText("a");
        repeat(x, 1, 'x', 399);
        Due.is("ten LINES", x.lines(1), 10);
        Due.is("the first sign", x.shown(1, 0, 0, 0), 'a');
        Due.is("the last sign", x.shown(1, 39, 9, 0), 'x');
    }

    @Says(KEEPS_400)
    static void endsCountAmongThe400() {
        GlkPanes x = Play.root(40, 11, TEXT);
        repeat(x, 1, END, 400);
        Due.is("400 PARAGRAPHS, and one more", x.lines(1), 401);
        repeat(x, 1, END, 1);
        Due.is("no more with a 401st", x.lines(1), 401);
    }

    private static final String OLDEST_GOES = "ahead of one more its oldest PARAGRAPH (what stands up to an END, with this) goes,";

    @Says(OLDEST_GOES)
    static void the401stSignTakesTheOldestParagraphWithItsEnd() {
        GlkPanes x = wideText("first\nsecond\n");
        repeat(x, 1, 'x', 387);
        Due.is("400 signs: first, second, and ten LINES", x.lines(1), 12);
        Play.write(x, 1, "Y");
        Due.is("second, and ten LINES", x.lines(1), 11);
        Due.is("'second' is the first row", x.shown(1, 0, 0, 0), 's');
        Due.is("the new sign is the last one", x.shown(1, 27, 10, 0), 'Y');
        repeat(x, 1, 'x', 5);
        Due.is("six are gone, six came", x.shown(1, 0, 0, 0), 's');
        Play.write(x, 1, "Z");
        Due.is("'second' goes with the 401st again", x.shown(1, 0, 0, 0), 'x');
        Due.is("the new sign is the last one again", x.shown(1, 33, 9, 0), 'Z');
    }

    @Says(OLDEST_GOES)
    static void anOldestParagraphWithoutASignIsItsEndAlone() {
        GlkPanes x = wideText("\n");
        repeat(x, 1, 'x', 399);
        Due.is("an empty LINE and ten", x.lines(1), 11);
        Play.write(x, 1, "Y");
        Due.is("ten LINES", x.lines(1), 10);
        Due.is("all 399", x.shown(1, 0, 0, 0), 'x');
        Due.is("and the new one", x.shown(1, 39, 9, 0), 'Y');
    }

    @Says(OLDEST_GOES)
    static void anOldestParagraphMayBeAllThatThereIs() {
        GlkPanes x = wideText("");
        repeat(x, 1, 'x', 399);
        Play.write(x, 1, "\n");
        Due.is("ten LINES and one more", x.lines(1), 11);
        Play.write(x, 1, "Y");
        Due.is("one LINE", x.lines(1), 1);
        Due.is("the new sign", x.shown(1, 0, 0, 0), 'Y');
        Due.is("it alone", x.shown(1, 1, 0, 0), 32);
    }

    @Says(OLDEST_GOES)
    static void the401stSignMayBeAnEnd() {
        GlkPanes x = wideText("ab\n");
        repeat(x, 1, 'x', 397);
        Play.write(x, 1, "\n");
        Due.is("the PARAGRAPH 'ab' goes; 397 signs and one more", x.lines(1), 11);
        Due.is("the first row", x.shown(1, 0, 0, 0), 'x');
    }

    @Says("or, when it has no END, its first sign.")
    static void withoutAnEndTheFirstSignGoes() {
        GlkPanes x = wideText("abc");
        repeat(x, 1, 'x', 397);
        Play.write(x, 1, "Y");
        Due.is("a goes", x.shown(1, 0, 0, 0), 'b');
        Due.is("Y comes", x.shown(1, 39, 9, 0), 'Y');
        Play.write(x, 1, "Z");
        Due.is("b goes", x.shown(1, 0, 0, 0), 'c');
        Due.is("ten LINES", x.lines(1), 10);
    }

    @Says("or, when it has no END, its first sign.")
    static void withoutAnEndTheFirstSignGoesForAnEndToo() {
        GlkPanes x = wideText("abc");
        repeat(x, 1, 'x', 397);
        Play.write(x, 1, "\n");
        Due.is("a goes", x.shown(1, 0, 0, 0), 'b');
        Due.is("ten LINES and one more", x.lines(1), 11);
    }

    private static final String SHOWN = "Shown are its LINES at its width w, the last ones that its rows have, "
        + "the last one at the bottom; with fewer the first one at the top.";

    @Says(SHOWN)
    static void fewerLinesThanRowsBeginAtTheTop() {
        GlkPanes x = Play.root(6, 3, TEXT);
        Play.write(x, 1, "one");
        Play.rows("one LINE", x, 1, "one", "", "");
        Play.write(x, 1, "\ntwo");
        Play.rows("two LINES", x, 1, "one", "two", "");
    }

    @Says(SHOWN)
    static void asManyLinesAsRowsFillThem() {
        GlkPanes x = Play.root(6, 3, TEXT);
        Play.write(x, 1, "one\ntwo\nthree");
        Play.rows("three LINES", x, 1, "one", "two", "three");
    }

    @Says(SHOWN)
    static void ofMoreLinesThanRowsTheLastOnesAreShown() {
        GlkPanes x = Play.root(6, 3, TEXT);
        Play.write(x, 1, "one\ntwo\nthree\nfour");
        Play.rows("four LINES", x, 1, "two", "three", "four");
        Play.write(x, 1, "\n\n\n");
        Play.rows("empty ones", x, 1, "", "", "");
    }

    @Says(SHOWN)
    static void linesAreWrappedAgainAtAnotherWidth() {
        GlkPanes x = Play.root(12, 3, TEXT);
        Play.write(x, 1, "the lamp is lit");
        Play.rows("twelve", x, 1, "the lamp is", "lit", "");
        x.resize(4, 3);
        Play.rows("four", x, 1, "lamp", "is", "lit");
        x.resize(15, 3);
        Play.rows("fifteen", x, 1, "the lamp is lit", "", "");
    }

    @Says("LINES: a PARAGRAPH without a sign (but its END) is one LINE;")
    static void aParagraphWithoutASignIsOneLine() {
        Play.wrapped("\na", 5, "", "a");
        Play.wrapped("\n\na", 5, "", "", "a");
        Play.wrapped("a\n\nb", 5, "a", "", "b");
        Play.wrapped("\n", 1, "", "");
    }

    @Says("else, as long as something is left: if not more than w signs are left, these;")
    static void notMoreThanTheWidthIsOneLine() {
        Play.wrapped("a", 5, "a");
        Play.wrapped("abcd", 5, "abcd");
        Play.wrapped("abcde", 5, "abcde");
        Play.wrapped("a b c", 5, "a b c");
        Play.wrapped("a", 1, "a");
    }

    @Says("else, as long as something is left: if not more than w signs are left, these;")
    static void spacesOfALastLineAreKept() {
        GlkPanes x = Play.root(5, 3, TEXT);
        x.style(1, 7);
        Play.write(x, 1, "ab   \n     \n ");
        Due.is("LINES", x.lines(1), 3);
        Play.ink("a 32 at the end", x, 1, 4, 0, 32, 7, 0);
        Play.ink("a LINE of them", x, 1, 4, 1, 32, 7, 0);
        Play.ink("one alone", x, 1, 0, 2, 32, 7, 0);
        Play.ink("behind it nothing stands", x, 1, 1, 2, 32, 0, 0);
    }

    private static final String AT_A_SPACE = "else, when one of the first w + 1 of these is 32: "
        + "those ahead of the last such 32 (perhaps none), and this one, with all 32 right behind it, is in no LINE;";

    @Says(AT_A_SPACE)
    static void aLineEndsAheadOfItsLastSpace() {
        Play.wrapped("ab cde", 5, "ab", "cde");
        Play.wrapped("a b cd", 5, "a b", "cd");
        Play.wrapped("a b c d e f", 5, "a b c", "d e f");
        Play.wrapped("abcd ef", 5, "abcd", "ef");
    }

    @Says(AT_A_SPACE)
    static void aSpaceRightBehindTheWidthCountsToo() {
        Play.wrapped("abcde fg", 5, "abcde", "fg");
        Play.wrapped("ab cd ef", 5, "ab cd", "ef");
        Play.wrapped("a b", 1, "a", "b");
    }

    @Says(AT_A_SPACE)
    static void aSpaceFurtherBehindDoesNotCount() {
        Play.wrapped("abcdef gh", 5, "abcde", "f gh");
        Play.wrapped("ab c", 1, "a", "b", "c");
    }

    @Says(AT_A_SPACE)
    static void aheadOfTheLastSpaceMayBeNothing() {
        Play.wrapped(" abcdef", 5, "", "abcde", "f");
        Play.wrapped(" a", 1, "", "a");
        Play.wrapped(" abcde", 5, "", "abcde");
    }

    @Says(AT_A_SPACE)
    static void spacesAheadOfTheLastOneAreInTheLine() {
        GlkPanes x = Play.root(5, 3, TEXT);
        x.style(1, 7);
        Play.write(x, 1, "ab   cd");
        Due.is("LINES", x.lines(1), 2);
        Play.ink("the second 32", x, 1, 3, 0, 32, 7, 0);
        Play.ink("the last 32 is in no LINE", x, 1, 4, 0, 32, 0, 0);
        Due.is("the next LINE", x.shown(1, 0, 1, 0), 'c');
    }

    @Says(AT_A_SPACE)
    static void allSpacesRightBehindAreInNoLine() {
        Play.wrapped("abcde     f", 5, "abcde", "f");
        Play.wrapped("abcde      fghij kl", 5, "abcde", "fghij", "kl");
        Play.wrapped("a      b", 1, "a", "b");
        Play.wrapped("abc d      e", 5, "abc d", "e");
    }

    @Says("else w signs.")
    static void withoutASpaceALineIsAsLongAsTheWidth() {
        Play.wrapped("abcdef", 5, "abcde", "f");
        Play.wrapped("abcdefghij", 5, "abcde", "fghij");
        Play.wrapped("abcdefghijk", 5, "abcde", "fghij", "k");
        Play.wrapped("abc", 1, "a", "b", "c");
    }

    @Says("(What is left may be nothing then: no LINE more.)")
    static void spacesAtAnEndMakeNoLine() {
        Play.wrapped("abcde ", 5, "abcde");
        Play.wrapped("abcde    ", 5, "abcde");
        Play.wrapped("abcde \nf", 5, "abcde", "f");
        Play.wrapped("abcde  \n\nf", 5, "abcde", "", "f");
        Play.wrapped("      ", 5, "     ");
        Play.wrapped("  ", 1, " ");
    }

    @Says("Behind the last END there is one PARAGRAPH more, perhaps without a sign.")
    static void behindTheLastEndIsOneParagraphMore() {
        Play.wrapped("a\nb", 5, "a", "b");
        Play.wrapped("a\n", 5, "a", "");
        Play.wrapped("\n", 5, "", "");
        Play.wrapped("abcde \n", 5, "abcde", "");
    }

    @Says("(A TEXT without any sign has no LINES.)")
    static void aTextWithoutASignHasNoLines() {
        GlkPanes x = Play.root(10, 3, TEXT);
        Due.is("at first", x.lines(1), 0);
        x.sign(1, 'a');
        x.wipe(1);
        Due.is("wiped", x.lines(1), 0);
        x.ask(1, LINE, 5);
        Due.is("with a LINE without a sign", x.lines(1), 0);
        Play.rows("nothing is shown", x, 1, "", "", "");
    }

    private static final String LINE_IN_TEXT = "A LINE that is asked for (section 3) stands behind a TEXT's signs "
        + "as if it were written, in STYLE 8, LINK 0;";

    @Says(LINE_IN_TEXT)
    static void aLineStandsBehindTheTextsSigns() {
        GlkPanes x = Play.root(10, 3, TEXT);
        x.style(1, 2);
        x.link(1, 6);
        Play.write(x, 1, "> ");
        x.ask(1, LINE, 40);
        Play.type(x, 1, "go");
        Play.rows("behind", x, 1, "> go", "", "");
        Play.ink("the TEXT's own", x, 1, 1, 0, 32, 2, 6);
        Play.ink("the LINE's first", x, 1, 2, 0, 'g', 8, 0);
        Play.ink("the LINE's last", x, 1, 3, 0, 'o', 8, 0);
        Play.ink("behind the LINE", x, 1, 4, 0, 32, 0, 0);
    }

    @Says(LINE_IN_TEXT)
    static void aLineIsWrappedWithTheTextsSigns() {
        GlkPanes x = Play.root(6, 3, TEXT);
        Play.write(x, 1, "say >");
        x.ask(1, LINE, 40);
        Play.type(x, 1, "go");
        Play.rows("the last word goes to the next row", x, 1, "say", ">go", "");
        Play.type(x, 1, " north");
        Play.rows("three LINES", x, 1, "say", ">go", "north");
        Play.type(x, 1, " up");
        Play.rows("the last three of four", x, 1, ">go", "north", "up");
        Due.is("counted", x.lines(1), 4);
    }

    @Says(LINE_IN_TEXT)
    static void aLineIsAloneInATextWithoutSigns() {
        GlkPanes x = Play.root(6, 3, TEXT);
        x.ask(1, LINE, 40);
        Play.type(x, 1, "a");
        Due.is("one LINE", x.lines(1), 1);
        Play.ink("it", x, 1, 0, 0, 'a', 8, 0);
        Due.is("8", x.type(1, BACK), 0);
        Due.is("none again", x.lines(1), 0);
    }

    /** The document does not say that a LINE takes signs away before it is written. */
    @Says(LINE_IN_TEXT)
    static void aLineBehind400SignsTakesNoneAway() {
        GlkPanes x = wideText("a");
        repeat(x, 1, 'x', 399);
        x.ask(1, LINE, 40);
        Play.type(x, 1, "0123456789012345678901234567890123456789");
        Due.is("eleven LINES", x.lines(1), 11);
        Due.is("the first sign", x.shown(1, 0, 0, 0), 'a');
        Due.is("the LINE's last sign", x.shown(1, 39, 10, 0), '9');
    }

    @Says("in a GRID from the CURSOR on in its row, as far as this goes.")
    static void aLineInAGridStandsFromTheCursorOn() {
        GlkPanes x = Play.root(6, 3, GRID);
        x.style(1, 2);
        x.link(1, 6);
        Play.write(x, 1, "\nabcdef");
        x.cursor(1, 2, 1);
        x.ask(1, LINE, 40);
        Play.rows("a LINE without a sign", x, 1, "", "abcdef", "");
        Play.type(x, 1, "XY");
        Play.rows("two signs", x, 1, "", "abXYef", "");
        Play.ink("ahead of it", x, 1, 1, 1, 'b', 2, 6);
        Play.ink("its first", x, 1, 2, 1, 'X', 8, 0);
        Play.ink("its last", x, 1, 3, 1, 'Y', 8, 0);
        Play.ink("behind it", x, 1, 4, 1, 'e', 2, 6);
        Play.cursor("it does not go on", x, 1, 2, 1);
    }

    @Says("in a GRID from the CURSOR on in its row, as far as this goes.")
    static void aLineInAGridGoesToItsRowsEnd() {
        GlkPanes x = Play.root(6, 3, GRID);
        x.cursor(1, 4, 1);
        x.ask(1, LINE, 40);
        Play.type(x, 1, "WXYZ");
        Play.rows("two of four", x, 1, "", "    WX", "");
        x.resize(8, 3);
        Play.rows("all in a longer row", x, 1, "", "    WXYZ", "");
        x.resize(5, 3);
        Play.rows("one in a shorter row", x, 1, "", "    W", "");
    }

    @Says("in a GRID from the CURSOR on in its row, as far as this goes.")
    static void aLineInAGridBehindItsPlacesIsNotSeen() {
        int[][] outside = {{6, 1}, {99, 0}, {0, 3}, {0, 99}};
        for (int[] place : outside) {
            GlkPanes x = Play.root(6, 3, GRID);
            x.cursor(1, place[0], place[1]);
            x.ask(1, LINE, 40);
            Play.type(x, 1, "WXYZ");
            Play.rows("at " + place[0] + ", " + place[1], x, 1, "", "", "");
        }
    }

    private static final String WRITTEN_IS = "WRITTEN is how many signs (ENDS, too) came to a pane since it was open, by sign()";

    @Says(WRITTEN_IS)
    static void writtenCountsSignsAndEnds() {
        for (int kind = TEXT; kind <= GRID; kind++) {
            GlkPanes x = Play.root(6, 3, kind);
            Due.is("at first", x.pane(1, WRITTEN), 0);
            Play.write(x, 1, "ab \n\n");
            Due.is("five", x.pane(1, WRITTEN), 5);
            x.wipe(1);
            Due.is("also wiped ones", x.pane(1, WRITTEN), 5);
            x.sign(1, 127);
            Due.is("not refused ones", x.pane(1, WRITTEN), 5);
        }
    }

    @Says(WRITTEN_IS)
    static void writtenCountsWhatIsNotKept() {
        GlkPanes x = wideText("");
        repeat(x, 1, 'x', 405);
        Due.is("more than 400", x.pane(1, WRITTEN), 405);
        GlkPanes y = Play.root(4, 2, GRID);
        y.cursor(1, 0, 50);
        repeat(y, 1, 'x', 9);
        Due.is("outside of a GRID", y.pane(1, WRITTEN), 9);
    }

    @Says(WRITTEN_IS)
    static void writtenIsOfEachPane() {
        GlkPanes x = Play.split(20, 9, LEFT, 5, GRID);
        Play.write(x, 1, "abc");
        Play.write(x, 2, "de");
        Due.is("TEXT", x.pane(1, WRITTEN), 3);
        Due.is("GRID", x.pane(2, WRITTEN), 2);
        Due.is("PAIR", x.pane(3, WRITTEN), 0);
    }

    @Says("and by what is ECHOED (all its signs, and one more).")
    static void writtenCountsWhatIsEchoedAndOneMore() {
        for (int kind = TEXT; kind <= GRID; kind++) {
            GlkPanes x = Play.root(6, 3, kind);
            x.ask(1, LINE, 40);
            Play.type(x, 1, "abc");
            Due.is("not yet", x.pane(1, WRITTEN), 0);
            x.type(1, END);
            Due.is("three and one more", x.pane(1, WRITTEN), 4);
            x.ask(1, LINE, 40);
            x.type(1, END);
            Due.is("none and one more", x.pane(1, WRITTEN), 5);
            x.ask(1, LINE, 40);
            Play.type(x, 1, "de");
            x.cancel(1, LINE);
            Due.is("CANCELLED: two and one more", x.pane(1, WRITTEN), 8);
            x.echo(1, false);
            x.ask(1, LINE, 40);
            Play.type(x, 1, "fg");
            x.type(1, END);
            Due.is("not ECHOED", x.pane(1, WRITTEN), 8);
        }
    }

    @Says("and by what is ECHOED (all its signs, and one more).")
    static void writtenCountsAllSignsOfALineThatAGridHasNoRoomFor() {
        GlkPanes x = Play.root(6, 3, GRID);
        x.cursor(1, 4, 0);
        x.ask(1, LINE, 40);
        Play.type(x, 1, "abcdefgh");
        x.type(1, END);
        Play.rows("two of eight", x, 1, "    ab", "", "");
        Due.is("eight and one more", x.pane(1, WRITTEN), 9);
    }
}
