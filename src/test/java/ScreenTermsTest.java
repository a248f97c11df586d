/** Section 1 of the Terms, sentence by sentence: THE SCREEN, SPLIT, a PAIR's room, CLOSING, REARRANGED. */
public final class ScreenTermsTest implements Terms {
    public static void main(String[] args) {
        Sentences.run(ScreenTermsTest.class);
    }

    private static void size(int w, int h, int dueW, int dueH) {
        GlkPanes x = new GlkPanes(w, h);
        Due.is("W of " + w, x.count(W), dueW);
        Due.is("H of " + h, x.count(H), dueH);
    }

    @Says({"1 THE SCREEN has W columns and H rows (4 ..", "60, 2 .. 24;"})
    static void screenHasTheSizeThatItIsTold() {
        size(4, 2, 4, 2);
        size(5, 3, 5, 3);
        size(30, 10, 30, 10);
        size(59, 23, 59, 23);
        size(60, 24, 60, 24);
        size(4, 24, 4, 24);
        size(60, 2, 60, 2);
    }

    @Says("others as the nearest);")
    static void screenTooSmallIsAsTheNearest() {
        size(3, 10, 4, 10);
        size(30, 1, 30, 2);
        size(0, 0, 4, 2);
        size(-1, -1, 4, 2);
        size(LEAST_INT, LEAST_INT, 4, 2);
    }

    @Says("others as the nearest);")
    static void screenTooLargeIsAsTheNearest() {
        size(61, 10, 60, 10);
        size(30, 25, 30, 24);
        size(MOST_INT, MOST_INT, 60, 24);
        size(LEAST_INT, MOST_INT, 4, 24);
    }

    @Says("places are columns x and rows y from 0.")
    static void placesAreCountedFromZero() {
        GlkPanes x = Play.root(5, 3, GRID);
        x.sign(1, 'a');
        x.cursor(1, 4, 2);
        x.sign(1, 'z');
        Due.is("first place", x.drawn(0, 0), 'a');
        Due.is("last place", x.drawn(4, 2), 'z');
        Due.is("behind the last column", x.drawn(5, 2), BAD);
        Due.is("behind the last row", x.drawn(4, 3), BAD);
        Due.is("ahead of the first column", x.drawn(-1, 0), BAD);
        Due.is("ahead of the first row", x.drawn(0, -1), BAD);
    }

    @Says("PANES get numbers 1, 2, .. as they come (PAIRS, too),")
    static void panesAndPairsGetNumbersAsTheyCome() {
        GlkPanes x = new GlkPanes(30, 10);
        Due.is("first", x.open(0, 0, 0, TEXT), 1);
        Due.is("second", x.open(1, LEFT, 3, GRID), 2);
        Due.is("third is the PAIR", x.root(), 3);
        Due.is("fourth", x.open(2, BELOW, 3, GRID), 4);
        Due.is("fifth is the PAIR", x.pane(4, PARENT), 5);
    }

    @Says("PANES get numbers 1, 2, .. as they come (PAIRS, too),")
    static void numbersOfClosedPanesDoNotComeAgain() {
        GlkPanes x = Play.split(30, 10, LEFT, 3, GRID);
        x.close(2);
        Due.is("2 and 3 are closed", x.count(OPEN), 1);
        Due.is("the next one", x.open(1, LEFT, 3, GRID), 4);
        Due.is("its PAIR", x.root(), 5);
        x.close(5);
        Due.is("after all were closed", x.open(0, 0, 0, TEXT), 6);
    }

    /** A screen that has used an odd number of numbers, of which 1 is open. */
    private static GlkPanes used(int numbers) {
        GlkPanes x = Play.root(60, 24, TEXT);
        for (int n = 2; n < numbers; n += 2) {
            x.open(1, LEFT + SHARE, 50, GRID);
            x.close(n);
        }
        return x;
    }

    @Says("60 in all;")
    static void theSixtiethNumberIsTheLast() {
        GlkPanes x = used(59);
        x.close(1);
        Due.is("the 60th", x.open(0, 0, 0, GRID), 60);
        Due.is("it is open", x.pane(60, KIND_OF), GRID);
        Due.is("a sign comes to it", x.sign(60, 'a'), 1);
        x.close(60);
        Due.is("the 61st", x.open(0, 0, 0, GRID), FULL);
        Due.is("in all", x.count(MADE), 60);
    }

    @Says("60 in all;")
    static void theSixtiethNumberMayBeAPairs() {
        GlkPanes x = used(57);
        x.close(1);
        Due.is("58", x.open(0, 0, 0, TEXT), 58);
        Due.is("59, with 60", x.open(58, LEFT, 5, GRID), 59);
        Due.is("the PAIR", x.root(), 60);
        Due.is("no more", x.open(60, LEFT, 5, GRID), FULL);
        Due.is("in all", x.count(MADE), 60);
    }

    @Says("60 in all;")
    static void aSplitTakesTwoOfTheNumbers() {
        GlkPanes x = used(57);
        Due.is("58, with 59", x.open(1, LEFT + SHARE, 50, GRID), 58);
        Due.is("the PAIR", x.root(), 59);
        Due.is("60, but there is no 61", x.open(1, LEFT + SHARE, 50, GRID), FULL);
        Due.is("in all", x.count(MADE), 59);
    }

    /** A screen of 12 panes that are no PAIRS: 1, 2, 4, .. 22. */
    private static GlkPanes twelve() {
        GlkPanes x = Play.root(60, 24, TEXT);
        for (int n = 2; n <= 22; n += 2) {
            Due.is("pane " + n, x.open(1, LEFT + SHARE, 50, TEXT), n);
        }
        return x;
    }

    @Says("12 at most that are no PAIRS are open at once.")
    static void aTwelfthPaneIsOpenedAndNoThirteenth() {
        GlkPanes x = twelve();
        Due.is("12 are no PAIRS", x.count(LEAVES), 12);
        Due.is("a 13th", x.open(1, LEFT + SHARE, 50, TEXT), FULL);
        Due.is("a 13th of a PAIR", x.open(23, LEFT + SHARE, 50, TEXT), FULL);
        Due.is("still 12", x.count(LEAVES), 12);
    }

    @Says("12 at most that are no PAIRS are open at once.")
    static void pairsDoNotCountAmongTheTwelve() {
        Due.is("with PAIRS", twelve().count(OPEN), 23);
    }

    @Says("12 at most that are no PAIRS are open at once.")
    static void closedPanesDoNotCountAmongTheTwelve() {
        GlkPanes x = twelve();
        x.close(2);
        Due.is("room again", x.open(1, LEFT + SHARE, 50, TEXT), 24);
        Due.is("and no more", x.open(1, LEFT + SHARE, 50, TEXT), FULL);
    }

    @Says("KINDS: 0 BLANK, 1 TEXT, 2 GRID, 3 PICTURE; 4 PAIR.")
    static void kindsHaveTheirNumbers() {
        GlkPanes x = Play.allKinds();
        Due.is("TEXT takes signs", x.lines(1), 0);
        Due.is("TEXT", x.pane(1, KIND_OF), 1);
        Due.is("GRID has a CURSOR", x.at(2, 0), 0);
        Due.is("GRID", x.pane(2, KIND_OF), 2);
        Due.is("PICTURE has a NUMBER", x.picture(4, 0), 0);
        Due.is("PICTURE", x.pane(4, KIND_OF), 3);
        Due.is("BLANK takes no signs", x.sign(6, 'a'), NOT);
        Due.is("BLANK", x.pane(6, KIND_OF), 0);
        Due.is("PAIR has sides", x.pair(7, FIRST), 2);
        Due.is("PAIR", x.pane(7, KIND_OF), 4);
    }

    @Says("The ROOT has all of THE SCREEN.")
    static void theRootHasAllOfTheScreen() {
        for (int kind = BLANK; kind <= PICTURE; kind++) {
            GlkPanes x = Play.root(17, 9, kind);
            Play.room("KIND " + kind, x, 1, 17, 9, 0, 0);
            x.resize(60, 24);
            Play.room("KIND " + kind + " of another size", x, 1, 60, 24, 0, 0);
        }
    }

    @Says("The ROOT has all of THE SCREEN.")
    static void aPairThatIsTheRootHasAllOfTheScreen() {
        GlkPanes x = Play.split(17, 9, LEFT, 3, GRID);
        Play.room("the PAIR", x, 3, 17, 9, 0, 0);
        x.close(2);
        Play.room("what is the ROOT then", x, 1, 17, 9, 0, 0);
    }

    @Says("A pane is SPLIT by a METHOD: where the new one is (0 LEFT, 1 RIGHT, 2 ABOVE, 3 BELOW),")
    static void theMethodSaysWhereTheNewOneIs() {
        Play.room("LEFT", Play.split(20, 9, 0, 3, GRID), 2, 3, 9, 0, 0);
        Play.room("RIGHT", Play.split(20, 9, 1, 3, GRID), 2, 3, 9, 17, 0);
        Play.room("ABOVE", Play.split(20, 9, 2, 3, GRID), 2, 20, 3, 0, 0);
        Play.room("BELOW", Play.split(20, 9, 3, 3, GRID), 2, 20, 3, 0, 6);
    }

    @Says("and 4 more: by SHARE (else FIXED),")
    static void fourMoreIsByShare() {
        for (int method = 0; method < 16; method++) {
            boolean share = method / 4 % 2 == 1;
            boolean columns = method % 4 <= RIGHT;
            GlkPanes x = Play.split(40, 20, method, 10, GRID);
            int due = !share ? 10 : columns ? 4 : 2;
            Due.is("by METHOD " + method, x.pane(2, columns ? COLUMNS : ROWS), due);
        }
    }

    @Says("and 8 more: without a BORDER.")
    static void eightMoreIsWithoutABorder() {
        for (int method = 0; method < 16; method++) {
            boolean columns = method % 4 <= RIGHT;
            GlkPanes x = Play.split(40, 20, method, 10, GRID);
            int what = columns ? COLUMNS : ROWS;
            int all = columns ? 40 : 20;
            Due.is("by METHOD " + method, x.pane(1, what) + x.pane(2, what), method < 8 ? all - 1 : all);
        }
    }

    private static final String NEW_PAIR = "A new PAIR comes to the old one's place in the tree, "
        + "with the new pane on that side of it, and the old one on the other;";

    @Says(NEW_PAIR)
    static void aSplitRootHasThePairInItsPlace() {
        for (int method = 0; method < 16; method++) {
            GlkPanes x = Play.split(40, 20, method, 10, GRID);
            boolean ahead = method % 2 == 0;
            Due.is("the ROOT by " + method, x.root(), 3);
            Due.is("left or upper side by " + method, x.pair(3, FIRST), ahead ? 2 : 1);
            Due.is("the other side by " + method, x.pair(3, SECOND), ahead ? 1 : 2);
            Due.is("PARENT of the new one", x.pane(2, PARENT), 3);
            Due.is("PARENT of the old one", x.pane(1, PARENT), 3);
        }
    }

    @Says(NEW_PAIR)
    static void aSplitLeftSideHasThePairInItsPlace() {
        GlkPanes x = Play.split(40, 20, LEFT, 10, GRID);
        Due.is("split of the left side", x.open(2, BELOW, 5, TEXT), 4);
        Due.is("the PAIR is the left side", x.pair(3, FIRST), 5);
        Due.is("the right side stays", x.pair(3, SECOND), 1);
        Due.is("the PAIR's PARENT", x.pane(5, PARENT), 3);
        Play.room("the PAIR has the old one's room", x, 5, 10, 20, 0, 0);
    }

    @Says(NEW_PAIR)
    static void aSplitRightSideHasThePairInItsPlace() {
        GlkPanes x = Play.split(40, 20, LEFT, 10, GRID);
        Due.is("split of the right side", x.open(1, ABOVE, 5, TEXT), 4);
        Due.is("the PAIR is the right side", x.pair(3, SECOND), 5);
        Due.is("the left side stays", x.pair(3, FIRST), 2);
        Due.is("the PAIR's PARENT", x.pane(5, PARENT), 3);
        Play.room("the PAIR has the old one's room", x, 5, 29, 20, 11, 0);
    }

    @Says(NEW_PAIR)
    static void aSplitPairIsASideOfTheNewPair() {
        GlkPanes x = Play.split(40, 20, LEFT, 10, GRID);
        Due.is("split of the PAIR", x.open(3, BELOW, 5, TEXT), 4);
        Due.is("the ROOT", x.root(), 5);
        Due.is("the old PAIR is the upper side", x.pair(5, FIRST), 3);
        Due.is("its PARENT", x.pane(3, PARENT), 5);
        Play.room("the old PAIR's room", x, 3, 40, 14, 0, 0);
    }

    @Says("its KEY is the new pane.")
    static void theKeyIsTheNewPane() {
        for (int method = 0; method < 16; method++) {
            Due.is("KEY by " + method, Play.split(40, 20, method, 10, GRID).pair(3, KEY_OF), 2);
        }
        Due.is("a BLANK, too", Play.split(40, 20, LEFT + SHARE, 10, BLANK).pair(3, KEY_OF), 2);
    }

    @Says("(Numbers: the new pane, then the PAIR.)")
    static void theNewPaneHasTheNumberAheadOfThePair() {
        GlkPanes x = Play.root(40, 20, TEXT);
        Due.is("the new pane", x.open(1, LEFT, 10, GRID), 2);
        Due.is("its KIND", x.pane(2, KIND_OF), GRID);
        Due.is("the PAIR's KIND", x.pane(3, KIND_OF), PAIR);
    }

    @Says("A PAIR's room goes to its two sides, along its columns (LEFT, RIGHT) or rows: n of them;")
    static void aPairsRoomIsSplitAlongItsColumns() {
        for (int side = LEFT; side <= RIGHT; side++) {
            GlkPanes x = Play.split(20, 9, side, 5, GRID);
            Due.is("rows of the one", x.pane(1, ROWS), 9);
            Due.is("rows of the other", x.pane(2, ROWS), 9);
            Due.is("columns of both, with the BORDER", x.pane(1, COLUMNS) + 1 + x.pane(2, COLUMNS), 20);
        }
    }

    @Says("A PAIR's room goes to its two sides, along its columns (LEFT, RIGHT) or rows: n of them;")
    static void aPairsRoomIsSplitAlongItsRows() {
        for (int side = ABOVE; side <= BELOW; side++) {
            GlkPanes x = Play.split(20, 9, side, 5, GRID);
            Due.is("columns of the one", x.pane(1, COLUMNS), 20);
            Due.is("columns of the other", x.pane(2, COLUMNS), 20);
            Due.is("rows of both, with the BORDER", x.pane(1, ROWS) + 1 + x.pane(2, ROWS), 9);
        }
    }

    /** A PAIR, 7, of 20 columns and 7 rows at 10, 5, whose sides are 4 and 6. */
    private static GlkPanes innerPair(int method, int size) {
        GlkPanes x = Play.split(30, 12, RIGHT + NO_BORDER, 20, TEXT);
        x.open(2, BELOW, 7, TEXT);
        x.open(4, method, size, GRID);
        Play.room("the PAIR", x, 7, 20, 7, 10, 5);
        return x;
    }

    @Says("A PAIR's room goes to its two sides, along its columns (LEFT, RIGHT) or rows: n of them;")
    static void aPairsRoomIsSplitWhereItLies() {
        Play.room("LEFT", innerPair(LEFT, 5), 6, 5, 7, 10, 5);
        Play.room("LEFT, the other side", innerPair(LEFT, 5), 4, 14, 7, 16, 5);
        Play.room("RIGHT", innerPair(RIGHT, 5), 6, 5, 7, 25, 5);
        Play.room("RIGHT, the other side", innerPair(RIGHT, 5), 4, 14, 7, 10, 5);
        Play.room("ABOVE", innerPair(ABOVE, 2), 6, 20, 2, 10, 5);
        Play.room("ABOVE, the other side", innerPair(ABOVE, 2), 4, 20, 4, 10, 8);
        Play.room("BELOW", innerPair(BELOW, 2), 6, 20, 2, 10, 10);
        Play.room("BELOW, the other side", innerPair(BELOW, 2), 4, 20, 4, 10, 5);
    }

    private static final String BORDER_OF = "b is 1, if it has a BORDER and n is above 0, else 0.";

    /** A PAIR, 5, of n columns or rows at the left or at the top, whose sides are 2 and 4. */
    private static GlkPanes smallPair(int n, boolean columns, int method, int size) {
        GlkPanes x = Play.split(20, 9, (columns ? LEFT : ABOVE) + NO_BORDER, n, TEXT);
        x.open(2, (columns ? LEFT : ABOVE) + method, size, GRID);
        return x;
    }

    @Says(BORDER_OF)
    static void aPairOfOneHasItsBorderAlone() {
        GlkPanes x = smallPair(1, true, SHARE, 100);
        Play.room("one column", x, 5, 1, 9, 0, 0);
        Play.room("of which its METHOD's side has none", x, 4, 0, 0, 0, 0);
        Play.room("nor the other", x, 2, 0, 0, 0, 0);
        Due.is("it is the BORDER", x.drawn(0, 0), 124);
        GlkPanes y = smallPair(1, false, 0, 5);
        Play.room("one row", y, 5, 20, 1, 0, 0);
        Play.room("of which its METHOD's side has none", y, 4, 0, 0, 0, 0);
        Play.room("nor the other", y, 2, 0, 0, 0, 0);
        Due.is("it is the BORDER", y.drawn(0, 0), 45);
    }

    @Says(BORDER_OF)
    static void aPairOfNoneHasNoBorder() {
        GlkPanes x = smallPair(0, true, SHARE, 50);
        Play.room("no column", x, 5, 0, 0, 0, 0);
        Due.is("nothing of it is drawn", x.drawn(0, 0), 32);
        Due.is("but the other side", x.under(0, 0), 1);
        GlkPanes y = smallPair(0, false, 0, 5);
        Play.room("no row", y, 5, 0, 0, 0, 0);
        Due.is("nothing of it is drawn", y.drawn(0, 0), 32);
        Due.is("but the other side", y.under(0, 0), 1);
    }

    @Says(BORDER_OF)
    static void aPairWithoutABorderHasAllForItsSides() {
        GlkPanes x = smallPair(1, true, SHARE + NO_BORDER, 100);
        Play.room("one column", x, 4, 1, 9, 0, 0);
        Due.is("it is the pane's", x.under(0, 0), 4);
        GlkPanes y = smallPair(1, false, SHARE + NO_BORDER, 99);
        Play.room("one row for the other side", y, 2, 20, 1, 0, 0);
    }

    private static void share(int n, int size, int due) {
        GlkPanes x = Play.split(n, 10, LEFT + SHARE + NO_BORDER, size, TEXT);
        Due.is(size + " of " + n + " columns", x.pane(2, COLUMNS), due);
        GlkPanes y = Play.split(10, 20, ABOVE + SHARE + NO_BORDER, size, TEXT);
        Due.is(size + " of 20 rows", y.pane(2, ROWS), 20 * size / 100);
    }

    @Says("Its METHOD's side gets m: by SHARE n SIZE / 100 (cut off);")
    static void aShareIsCutOff() {
        share(30, 50, 15);
        share(31, 50, 15);
        share(10, 9, 0);
        share(10, 10, 1);
        share(10, 19, 1);
        share(10, 99, 9);
        share(60, 99, 59);
        share(60, 1, 0);
        share(60, 2, 1);
    }

    @Says("Its METHOD's side gets m: by SHARE n SIZE / 100 (cut off);")
    static void aShareOfNothingAndOfAll() {
        share(30, 0, 0);
        share(30, 100, 30);
    }

    @Says("Its METHOD's side gets m: by SHARE n SIZE / 100 (cut off);")
    static void aShareIsOfAllColumnsWithTheBorder() {
        GlkPanes x = Play.split(10, 10, LEFT + SHARE, 50, TEXT);
        Due.is("half of 10, not of 9", x.pane(2, COLUMNS), 5);
        Due.is("what is left", x.pane(1, COLUMNS), 4);
    }

    @Says("FIXED as many as the KEY wants: of TEXT and GRID SIZE,")
    static void aTextOrGridWantsItsSize() {
        for (int kind = TEXT; kind <= GRID; kind++) {
            for (int size = 0; size <= 8; size++) {
                Due.is("columns", Play.split(20, 9, RIGHT, size, kind).pane(2, COLUMNS), size);
                Due.is("rows", Play.split(20, 9, BELOW, size, kind).pane(2, ROWS), size);
            }
        }
    }

    @Says("of PICTURE SIZE / 8 columns or SIZE / 16 rows (each rounded up),")
    static void aPictureWantsEighthsOfColumnsRoundedUp() {
        int[][] due = {{0, 0}, {1, 1}, {7, 1}, {8, 1}, {9, 2}, {16, 2}, {17, 3}, {400, 50}, {401, 51}};
        for (int[] d : due) {
            Due.is("SIZE " + d[0], Play.split(60, 24, LEFT, d[0], PICTURE).pane(2, COLUMNS), d[1]);
        }
    }

    @Says("of PICTURE SIZE / 8 columns or SIZE / 16 rows (each rounded up),")
    static void aPictureWantsSixteenthsOfRowsRoundedUp() {
        int[][] due = {{0, 0}, {1, 1}, {15, 1}, {16, 1}, {17, 2}, {32, 2}, {33, 3}, {320, 20}, {321, 21}};
        for (int[] d : due) {
            Due.is("SIZE " + d[0], Play.split(60, 24, ABOVE, d[0], PICTURE).pane(2, ROWS), d[1]);
        }
    }

    @Says("of BLANK, or without a KEY, 0;")
    static void withoutAKeyAFixedSideHasNothing() {
        GlkPanes x = Play.split(20, 9, LEFT, 5, TEXT);
        x.open(2, BELOW + SHARE, 50, TEXT);
        x.close(2);
        Due.is("no KEY", x.pair(3, KEY_OF), NONE);
        Play.room("the METHOD's side", x, 4, 0, 0, 0, 0);
        Play.room("the other side has all but the BORDER", x, 1, 19, 9, 1, 0);
    }

    /** No call makes a BLANK the KEY of a FIXED PAIR, so that it never has to want anything. */
    @Says("of BLANK, or without a KEY, 0;")
    static void noBlankIsTheKeyOfAFixedPair() {
        GlkPanes x = Play.split(20, 9, LEFT + SHARE, 50, BLANK);
        Due.is("by open()", x.open(1, LEFT, 5, BLANK), NOT);
        Due.is("by arrange() to FIXED", x.arrange(3, LEFT, 5, 0), NOT);
        x.arrange(3, LEFT, 5, 1);
        Due.is("by arrange() to the BLANK", x.arrange(3, LEFT, 5, 2), NOT);
        Play.room("by the TEXT", x, 2, 5, 9, 0, 0);
    }

    @Says("but m is n - b at most.")
    static void aFixedSideHasNoMoreThanThereIs() {
        Play.room("19 are left", Play.split(20, 9, LEFT, 19, TEXT), 2, 19, 9, 0, 0);
        Play.room("20 are too many", Play.split(20, 9, LEFT, 20, TEXT), 2, 19, 9, 0, 0);
        Play.room("the most SIZE", Play.split(20, 9, RIGHT, 999, GRID), 2, 19, 9, 1, 0);
        Play.room("rows", Play.split(20, 9, BELOW, 9, GRID), 2, 20, 8, 0, 1);
        Play.room("a PICTURE", Play.split(20, 9, ABOVE, 999, PICTURE), 2, 20, 8, 0, 0);
        Play.room("without a BORDER", Play.split(20, 9, LEFT + NO_BORDER, 20, TEXT), 2, 20, 9, 0, 0);
        Play.room("more without a BORDER", Play.split(20, 9, LEFT + NO_BORDER, 21, TEXT), 2, 20, 9, 0, 0);
    }

    @Says("but m is n - b at most.")
    static void aWholeShareLeavesTheBorder() {
        Play.room("100 of 20", Play.split(20, 9, LEFT + SHARE, 100, TEXT), 2, 19, 9, 0, 0);
        Play.room("100 of 9 rows", Play.split(20, 9, BELOW + SHARE, 100, TEXT), 2, 20, 8, 0, 1);
    }

    @Says("The other side has n - b - m;")
    static void theOtherSideHasWhatIsLeft() {
        Play.room("with a BORDER", Play.split(20, 9, LEFT, 5, TEXT), 1, 14, 9, 6, 0);
        Play.room("without", Play.split(20, 9, LEFT + NO_BORDER, 5, TEXT), 1, 15, 9, 5, 0);
        Play.room("one is left", Play.split(20, 9, RIGHT, 18, TEXT), 1, 1, 9, 0, 0);
        Play.room("none is left", Play.split(20, 9, RIGHT, 19, TEXT), 1, 0, 0, 0, 0);
        Play.room("all but the BORDER", Play.split(20, 9, ABOVE, 0, TEXT), 1, 20, 8, 0, 1);
    }

    @Says("the BORDER lies between.")
    static void theBorderLiesBetween() {
        int[][] due = {{LEFT, 5, 0, 124}, {RIGHT, 14, 0, 124}, {ABOVE, 0, 5, 45}, {BELOW, 0, 3, 45}};
        for (int[] d : due) {
            GlkPanes x = Play.split(20, 9, d[0], 5, GRID);
            Due.is("BORDER by " + d[0], x.drawn(d[1], d[2]), d[3]);
            Due.is("it is no pane's", x.under(d[1], d[2]), NONE);
            int first = x.pair(3, FIRST);
            int second = x.pair(3, SECOND);
            Due.is("ahead of it", d[0] <= RIGHT ? x.under(d[1] - 1, 0) : x.under(0, d[2] - 1), first);
            Due.is("behind it", d[0] <= RIGHT ? x.under(d[1] + 1, 0) : x.under(0, d[2] + 1), second);
        }
    }

    private static final String NEITHER = "(What has no columns, or no rows, has neither of them: 0 by 0, and all below it.)";

    @Says(NEITHER)
    static void whatHasNoColumnsHasNoRows() {
        GlkPanes x = Play.split(20, 9, LEFT, 0, TEXT);
        Due.is("columns", x.pane(2, COLUMNS), 0);
        Due.is("rows", x.pane(2, ROWS), 0);
    }

    @Says(NEITHER)
    static void whatHasNoRowsHasNoColumns() {
        GlkPanes x = Play.split(20, 9, BELOW, 0, TEXT);
        Due.is("rows", x.pane(2, ROWS), 0);
        Due.is("columns", x.pane(2, COLUMNS), 0);
    }

    @Says(NEITHER)
    static void allBelowWhatHasNoRoomHasNone() {
        GlkPanes x = Play.split(20, 9, LEFT, 0, TEXT);
        x.open(2, BELOW, 3, GRID);
        x.open(4, RIGHT + NO_BORDER, 3, TEXT);
        int[] below = {2, 4, 5, 6, 7};
        for (int n : below) {
            Play.room("no columns", x, n, 0, 0, 0, 0);
        }
        GlkPanes y = Play.split(20, 9, BELOW, 0, TEXT);
        y.open(2, LEFT, 3, GRID);
        y.open(4, BELOW + NO_BORDER, 3, TEXT);
        for (int n : below) {
            Play.room("no rows", y, n, 0, 0, 0, 0);
        }
    }

    /** 1 and 2 are sides of 3; below 5, in the place of 2, are 2 and 7, and below this are 4 and 6. */
    private static GlkPanes threeLevels() {
        GlkPanes x = Play.split(40, 20, LEFT + SHARE, 50, TEXT);
        x.open(2, BELOW + SHARE, 50, GRID);
        x.open(4, RIGHT + SHARE, 50, PICTURE);
        return x;
    }

    @Says("CLOSING a pane closes all below it,")
    static void closingClosesAllBelow() {
        GlkPanes x = threeLevels();
        x.close(5);
        int[] closed = {2, 4, 5, 6, 7};
        for (int n : closed) {
            Due.is("closed is " + n, x.pane(n, KIND_OF), BAD);
        }
        Due.is("1 is left", x.count(OPEN), 1);
        GlkPanes y = threeLevels();
        y.close(3);
        Due.is("with the ROOT all are closed", y.count(OPEN), 0);
    }

    @Says("and its PAIR;")
    static void closingClosesItsPair() {
        GlkPanes x = threeLevels();
        x.close(6);
        Due.is("6 is closed", x.pane(6, KIND_OF), BAD);
        Due.is("its PAIR, too", x.pane(7, KIND_OF), BAD);
        Due.is("no PAIR more", x.pane(5, KIND_OF), PAIR);
        Due.is("what are left", x.count(OPEN), 5);
    }

    @Says("what was on the other side comes to the PAIR's place.")
    static void theOtherSideComesToThePairsPlace() {
        GlkPanes x = threeLevels();
        x.close(6);
        Due.is("4 is the lower side of 5", x.pair(5, SECOND), 4);
        Due.is("its PARENT", x.pane(4, PARENT), 5);
        Play.room("it has the PAIR's room", x, 4, 20, 10, 0, 10);
        x.close(1);
        Due.is("a PAIR comes to the ROOT's place", x.root(), 5);
        Due.is("it has no PARENT", x.pane(5, PARENT), 0);
        Play.room("it has all", x, 5, 40, 20, 0, 0);
    }

    @Says("what was on the other side comes to the PAIR's place.")
    static void theOtherSideComesToAnUpperSidesPlace() {
        GlkPanes x = Play.split(40, 20, LEFT + SHARE, 50, TEXT);
        x.open(2, BELOW + SHARE, 50, GRID);
        x.close(2);
        Due.is("4 is the left side of 3", x.pair(3, FIRST), 4);
        Due.is("the right side stays", x.pair(3, SECOND), 1);
    }

    @Says("PAIRS whose KEY is closed have none any more.")
    static void aClosedKeyIsNoKey() {
        GlkPanes x = threeLevels();
        x.arrange(3, LEFT + SHARE, 50, 4);
        x.arrange(5, BELOW + SHARE, 50, 6);
        Due.is("KEY", x.pair(3, KEY_OF), 4);
        x.close(4);
        Due.is("the KEY that is closed", x.pair(3, KEY_OF), NONE);
        Due.is("another KEY", x.pair(5, KEY_OF), 6);
    }

    @Says("PAIRS whose KEY is closed have none any more.")
    static void aKeyClosedWithAPaneAboveItIsNoKey() {
        GlkPanes x = threeLevels();
        x.arrange(3, LEFT + SHARE, 50, 4);
        x.open(3, LEFT + SHARE, 50, TEXT);
        x.arrange(9, LEFT, 7, 6);
        x.close(7);
        Due.is("the KEY of 3", x.pair(3, KEY_OF), NONE);
        Due.is("the KEY of 9", x.pair(9, KEY_OF), NONE);
        Play.room("by it 8 had its columns", x, 8, 0, 0, 0, 0);
    }

    @Says({"REARRANGED, a PAIR gets another METHOD (along the same, columns or rows;", "SIZE"})
    static void rearrangedAPairHasAnotherMethodAndSize() {
        GlkPanes x = Play.split(20, 9, LEFT, 5, TEXT);
        x.arrange(3, LEFT + SHARE + NO_BORDER, 50, 0);
        Due.is("METHOD", x.pair(3, METHOD_OF), LEFT + SHARE + NO_BORDER);
        Due.is("SIZE", x.pair(3, SIZE_OF), 50);
        Play.room("its side", x, 2, 10, 9, 0, 0);
        Play.room("the other side", x, 1, 10, 9, 10, 0);
        x.arrange(3, LEFT, 7, 0);
        Play.room("FIXED again", x, 2, 7, 9, 0, 0);
        Due.is("with a BORDER", x.drawn(7, 0), 124);
    }

    @Says("if it is the other side, its two sides change places),")
    static void rearrangedToTheOtherSideItsSidesChangePlaces() {
        GlkPanes x = Play.split(20, 9, LEFT, 5, TEXT);
        x.arrange(3, RIGHT, 5, 0);
        Due.is("left side", x.pair(3, FIRST), 1);
        Due.is("right side", x.pair(3, SECOND), 2);
        Play.room("the METHOD's side is the same pane", x, 2, 5, 9, 15, 0);
        GlkPanes y = Play.split(20, 9, BELOW, 3, TEXT);
        y.arrange(3, ABOVE, 3, 0);
        Due.is("upper side", y.pair(3, FIRST), 2);
        Due.is("lower side", y.pair(3, SECOND), 1);
        Play.room("above", y, 2, 20, 3, 0, 0);
    }

    @Says("if it is the other side, its two sides change places),")
    static void rearrangedToTheSameSideItsSidesStay() {
        GlkPanes x = Play.split(20, 9, RIGHT, 5, TEXT);
        x.arrange(3, RIGHT + SHARE, 50, 0);
        Due.is("left side", x.pair(3, FIRST), 1);
        Due.is("right side", x.pair(3, SECOND), 2);
    }

    private static final String NEW_KEY = "and KEY (an open pane below it that is no PAIR; 0: as it was).";

    @Says(NEW_KEY)
    static void rearrangedAPairHasAnotherKeyBelowIt() {
        GlkPanes x = threeLevels();
        int[] keys = {1, 2, 4, 6};
        for (int k : keys) {
            Due.is("KEY " + k, x.arrange(3, LEFT, 16, k), 1);
            Due.is("its KEY", x.pair(3, KEY_OF), k);
            Due.is("columns by it", x.pane(5, COLUMNS), k == 6 ? 2 : 16);
        }
    }

    @Says(NEW_KEY)
    static void rearrangedWithZeroThePairHasItsKeyAsItWas() {
        GlkPanes x = threeLevels();
        x.arrange(3, LEFT, 16, 6);
        Due.is("0", x.arrange(3, LEFT, 24, 0), 1);
        Due.is("its KEY", x.pair(3, KEY_OF), 6);
        Due.is("columns by it", x.pane(5, COLUMNS), 3);
    }

    @Says(NEW_KEY)
    static void rearrangedWithZeroAPairWithoutAKeyHasNone() {
        GlkPanes x = threeLevels();
        x.close(2);
        Due.is("0", x.arrange(3, LEFT, 16, 0), 1);
        Due.is("no KEY", x.pair(3, KEY_OF), NONE);
    }
}
