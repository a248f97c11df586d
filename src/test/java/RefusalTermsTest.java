import java.util.Arrays;
import java.util.function.Supplier;

/** The last sentences of the Terms: what BAD, NONE, NOT and FULL are, which one comes first, and that nothing changes. */
public final class RefusalTermsTest implements Terms {
    private static final Calls CALLS = new Calls(GlkPanes.class);

    /** A call that is refused in a state of the screen, with its answer. */
    private record Refused(int due, String call, int... arguments) {
        String name() {
            return call + Arrays.toString(arguments);
        }

        int on(GlkPanes x) {
            return CALLS.answer(x, call, arguments);
        }
    }

    private static Refused refused(int due, String call, int... arguments) {
        return new Refused(due, call, arguments);
    }

    public static void main(String[] args) {
        Sentences.run(RefusalTermsTest.class);
    }

    /** Panes of all kinds with signs, ASKS and EVENTS: 1 asks for a LINE, 2 for a KEY, a LINK and a CLICK. */
    private static GlkPanes busy() {
        GlkPanes x = Play.someClosed();
        x.ask(1, KEY, 0);
        x.type(1, 'k');
        x.take();
        x.resize(42, 13);
        x.style(1, 3);
        x.link(1, 33);
        x.style(2, 4);
        x.link(2, 44);
        for (int i = 0; i < 30; i++) {
            x.sign(1, 97 + i % 26);
            x.sign(2, 97 + i % 26);
        }
        x.picture(4, 7);
        x.echo(2, false);
        x.ask(1, LINE, 10);
        x.type(1, 'a');
        x.type(1, 'b');
        x.ask(2, KEY, 0);
        x.ask(2, LINK, 0);
        x.ask(2, CLICK, 0);
        return x;
    }

    private static final int[] OUTSIDE = {LEAST_INT, -1000, -1, 1000, 1000000, MOST_INT};

    /** Calls that are well in busy(), and how many of their first arguments are bad when they are far outside. */
    private static final Object[][] BOUNDED = {{"open", new int[] {1, 4, 50, 1}, 4}, {"close", new int[] {6}, 1},
        {"arrange", new int[] {3, 1, 5, 0}, 4}, {"pane", new int[] {1, 0}, 2}, {"pair", new int[] {3, 0}, 2},
        {"sign", new int[] {2, 65}, 2}, {"style", new int[] {1, 1}, 2}, {"link", new int[] {1, 1}, 2},
        {"cursor", new int[] {2, 1, 1}, 3}, {"at", new int[] {2, 0}, 2}, {"wipe", new int[] {2}, 1},
        {"picture", new int[] {4, 1}, 2}, {"shown", new int[] {1, 0, 0, 0}, 4}, {"lines", new int[] {1}, 1},
        {"drawn", new int[] {0, 0}, 2}, {"under", new int[] {0, 0}, 2}, {"cancel", new int[] {2, 0}, 2},
        {"echo", new int[] {1, 1}, 1}, {"type", new int[] {1, 65}, 2}, {"click", new int[] {0, 0}, 2},
        {"event", new int[] {0}, 1}, {"count", new int[] {0}, 1}};

    private static final String BAD_IS = "BAD: a number is none that there is, or outside what is told;";

    @Says(BAD_IS)
    static void whatIsFarOutsideIsBad() {
        for (Object[] row : BOUNDED) {
            int[] well = (int[]) row[1];
            Due.isTrue(row[0] + " is well", CALLS.answer(busy(), (String) row[0], well) >= 0);
            for (int i = 0; i < (int) row[2]; i++) {
                for (int wild : OUTSIDE) {
                    int[] a = well.clone();
                    a[i] = wild;
                    Refused r = refused(BAD, (String) row[0], a);
                    Due.is(r.name(), r.on(busy()), BAD);
                }
            }
        }
    }

    @Says(BAD_IS)
    static void aLimitFarOutsideIsBad() {
        for (int wild : OUTSIDE) {
            GlkPanes x = Play.root(6, 3, TEXT);
            Due.is("ask(1, LINE, " + wild + ")", x.ask(1, LINE, wild), BAD);
            Due.is("ask(1, " + wild + ", 5)", x.ask(1, wild, 5), BAD);
            Due.is("ask(" + wild + ", LINE, 5)", x.ask(wild, LINE, 5), BAD);
        }
    }

    @Says("NONE: nothing of that kind;")
    static void whereNothingIsNoneIsTold() {
        GlkPanes x = new GlkPanes(20, 9);
        Due.is("no ROOT", x.root(), NONE);
        Due.is("no pane there", x.under(0, 0), NONE);
        Due.is("no EVENT waits", x.take(), NONE);
        Due.is("no EVENT was taken", x.event(0), NONE);
        x.open(0, 0, 0, TEXT);
        Due.is("no ASK", x.cancel(1, KEY), NONE);
        x.open(1, LEFT, 5, TEXT);
        x.open(2, BELOW, 5, TEXT);
        x.close(2);
        Due.is("no KEY", x.pair(3, KEY_OF), NONE);
    }

    @Says("NOT: it can't be now, as told;")
    static void whatCanNotBeNowCanBeLater() {
        GlkPanes x = Play.root(20, 9, TEXT);
        Due.is("a second ROOT", x.open(0, 0, 0, TEXT), NOT);
        x.close(1);
        Due.is("a ROOT now", x.open(0, 0, 0, GRID), 2);
        x.ask(2, LINE, 5);
        Due.is("a sign with a LINE", x.sign(2, 'a'), NOT);
        Due.is("a CURSOR with a LINE", x.cursor(2, 0, 0), NOT);
        Due.is("wiped with a LINE", x.wipe(2), NOT);
        Due.is("a KEY with a LINE", x.ask(2, KEY, 0), NOT);
        x.cancel(2, LINE);
        Due.is("a sign now", x.sign(2, 'a'), 1);
        Due.is("a CURSOR now", x.cursor(2, 0, 0), 1);
        Due.is("wiped now", x.wipe(2), 1);
        Due.is("a KEY now", x.ask(2, KEY, 0), 1);
    }

    private static GlkPanes withTwelve() {
        GlkPanes x = Play.root(60, 24, TEXT);
        for (int n = 2; n <= 22; n += 2) {
            x.open(1, LEFT + SHARE, 50, TEXT);
        }
        return x;
    }

    private static GlkPanes with59Numbers() {
        GlkPanes x = Play.root(60, 24, TEXT);
        for (int n = 2; n <= 58; n += 2) {
            x.open(1, LEFT + SHARE, 50, GRID);
            x.close(n);
        }
        return x;
    }

    private static GlkPanes with60Numbers() {
        GlkPanes x = with59Numbers();
        x.close(1);
        x.open(0, 0, 0, TEXT);
        return x;
    }

    @Says("FULL: no room.")
    static void withoutRoomOpenIsFull() {
        Due.is("12 are open", withTwelve().open(1, LEFT + SHARE, 50, TEXT), FULL);
        Due.is("one number is left", with59Numbers().open(1, LEFT + SHARE, 50, TEXT), FULL);
        GlkPanes x = with60Numbers();
        Due.is("no number is left", x.open(60, LEFT + SHARE, 50, TEXT), FULL);
        x.close(60);
        Due.is("no number is left for a ROOT", x.open(0, 0, 0, TEXT), FULL);
    }

    private static final String FIRST_ONE = "Of several the first one in this order.";

    @Says(FIRST_ONE)
    static void badGoesAheadOfNone() {
        GlkPanes x = new GlkPanes(20, 9);
        Due.is("under() outside, without a ROOT", x.under(20, 0), BAD);
        Due.is("event() outside, without an EVENT", x.event(44), BAD);
        x.open(0, 0, 0, TEXT);
        Due.is("cancel() of no kind, without an ASK", x.cancel(1, 4), BAD);
        x.open(1, LEFT, 5, TEXT);
        x.open(2, BELOW, 5, TEXT);
        x.close(2);
        Due.is("pair() of no fact, without a KEY", x.pair(3, 5), BAD);
    }

    @Says(FIRST_ONE)
    static void badGoesAheadOfNot() {
        Refused[] both = {refused(BAD, "open", 0, 0, 0, 4), refused(BAD, "open", 1, 0, 1000, BLANK),
            refused(BAD, "open", 10, 0, 5, BLANK), refused(BAD, "open", 1, 16, 5, BLANK),
            refused(BAD, "arrange", 3, ABOVE, 1000, 0), refused(BAD, "arrange", 3, ABOVE, 5, 3),
            refused(BAD, "arrange", 3, ABOVE + SHARE, 101, 0), refused(BAD, "arrange", 3, LEFT, 1000, 6),
            refused(BAD, "sign", 6, 127), refused(BAD, "sign", 1, 31), refused(BAD, "style", 3, 11),
            refused(BAD, "link", 3, 1000), refused(BAD, "cursor", 1, 100, 0), refused(BAD, "cursor", 6, 0, -1),
            refused(BAD, "at", 1, 2), refused(BAD, "picture", 1, 1000), refused(BAD, "shown", 4, 0, 99, 0),
            refused(BAD, "shown", 4, 0, 0, 3), refused(BAD, "shown", 6, -1, 0, 0), refused(BAD, "ask", 6, LINE, 0),
            refused(BAD, "ask", 1, LINE, 41), refused(BAD, "ask", 2, LINE, 0), refused(BAD, "ask", 6, 4, 1)};
        for (Refused r : both) {
            Due.is(r.name(), r.on(busy()), r.due);
        }
        GlkPanes x = Play.root(6, 3, GRID);
        x.ask(1, LINE, 5);
        Due.is("cursor() outside, with a LINE", x.cursor(1, 0, 100), BAD);
    }

    @Says(FIRST_ONE)
    static void badAndNotGoAheadOfFull() {
        GlkPanes x = withTwelve();
        Due.is("no such pane", x.open(60, LEFT + SHARE, 50, TEXT), BAD);
        Due.is("no METHOD", x.open(1, 16, 50, TEXT), BAD);
        Due.is("no SIZE", x.open(1, LEFT + SHARE, 101, TEXT), BAD);
        Due.is("no KIND", x.open(1, LEFT + SHARE, 50, 4), BAD);
        Due.is("a second ROOT", x.open(0, 0, 0, TEXT), NOT);
        Due.is("a FIXED BLANK", x.open(1, LEFT, 5, BLANK), NOT);
        GlkPanes y = with60Numbers();
        Due.is("a second ROOT, of 60", y.open(0, 0, 0, TEXT), NOT);
        Due.is("a FIXED BLANK, of 60", y.open(60, LEFT, 5, BLANK), NOT);
        y.close(60);
        Due.is("a ROOT of no KIND, of 60", y.open(0, 0, 0, -1), BAD);
    }

    private static final String NOTHING_CHANGES = "What is refused changes nothing.";

    private static GlkPanes after(Supplier<GlkPanes> screen, Refused r) {
        GlkPanes x = screen.get();
        r.on(x);
        return x;
    }

    private static void changesNothing(Supplier<GlkPanes> screen, Refused... calls) {
        String before = Look.at(screen);
        for (Refused r : calls) {
            Due.is(r.name(), r.on(screen.get()), r.due);
            Due.isTrue(r.name() + " changes nothing", Look.at(() -> after(screen, r)).equals(before));
        }
    }

    @Says(NOTHING_CHANGES)
    static void refusedPanesChangeNothing() {
        changesNothing(RefusalTermsTest::busy,
            refused(NOT, "open", 0, 0, 0, TEXT), refused(NOT, "open", 1, LEFT, 5, BLANK),
            refused(BAD, "open", 8, LEFT, 5, TEXT), refused(BAD, "open", 1, 16, 5, TEXT),
            refused(BAD, "open", 1, LEFT, 1000, TEXT), refused(BAD, "open", 1, LEFT + SHARE, 101, TEXT),
            refused(BAD, "open", 1, LEFT, 5, PAIR), refused(BAD, "close", 0), refused(BAD, "close", 8),
            refused(BAD, "close", 61), refused(BAD, "arrange", 1, LEFT, 5, 0), refused(BAD, "arrange", 9, LEFT, 5, 0),
            refused(BAD, "arrange", 3, 16, 5, 0), refused(BAD, "arrange", 3, RIGHT, 1000, 0),
            refused(BAD, "arrange", 3, LEFT + SHARE, 101, 0), refused(BAD, "arrange", 3, LEFT, 5, 8),
            refused(BAD, "arrange", 3, LEFT, 5, 7), refused(BAD, "arrange", 5, ABOVE, 5, 2),
            refused(NOT, "arrange", 3, ABOVE, 5, 0), refused(NOT, "arrange", 3, BELOW + SHARE, 5, 1),
            refused(NOT, "arrange", 5, LEFT, 5, 4), refused(NOT, "arrange", 3, LEFT, 5, 6),
            refused(NOT, "arrange", 7, ABOVE, 5, 0), refused(BAD, "pane", 1, 10), refused(BAD, "pair", 3, 5));
    }

    @Says(NOTHING_CHANGES)
    static void refusedSignsChangeNothing() {
        changesNothing(RefusalTermsTest::busy,
            refused(BAD, "sign", 2, 31), refused(BAD, "sign", 2, 127), refused(BAD, "sign", 8, 65),
            refused(NOT, "sign", 1, 65), refused(NOT, "sign", 1, END), refused(NOT, "sign", 3, 65),
            refused(NOT, "sign", 4, 65), refused(NOT, "sign", 6, 65), refused(BAD, "style", 2, 11),
            refused(BAD, "style", 2, -1), refused(NOT, "style", 3, 1), refused(BAD, "link", 2, 1000),
            refused(BAD, "link", 2, -1), refused(NOT, "link", 3, 1), refused(BAD, "cursor", 2, 100, 1),
            refused(BAD, "cursor", 2, 1, 100), refused(BAD, "cursor", 2, -1, 1), refused(BAD, "cursor", 2, 1, -1),
            refused(NOT, "cursor", 1, 0, 0), refused(BAD, "at", 2, 2), refused(NOT, "at", 1, 0),
            refused(BAD, "wipe", 8), refused(NOT, "wipe", 1), refused(NOT, "wipe", 4), refused(BAD, "picture", 4, 1000),
            refused(BAD, "picture", 4, -1), refused(NOT, "picture", 1, 1), refused(BAD, "shown", 1, 99, 0, 0),
            refused(NOT, "shown", 4, 0, 0, 0), refused(NOT, "lines", 2), refused(BAD, "drawn", 99, 0),
            refused(BAD, "under", 0, 99));
    }

    @Says(NOTHING_CHANGES)
    static void refusedAsksChangeNothing() {
        changesNothing(RefusalTermsTest::busy,
            refused(BAD, "ask", 1, LINE, 0), refused(BAD, "ask", 1, LINE, 41),
            refused(NOT, "ask", 1, LINE, 40), refused(NOT, "ask", 1, KEY, 0), refused(NOT, "ask", 1, CLICK, 0),
            refused(NOT, "ask", 2, KEY, 0), refused(NOT, "ask", 2, LINE, 5), refused(NOT, "ask", 2, LINK, 0),
            refused(NOT, "ask", 2, CLICK, 0), refused(NOT, "ask", 3, KEY, 0), refused(NOT, "ask", 4, LINE, 5),
            refused(NOT, "ask", 6, LINK, 0), refused(BAD, "ask", 2, 4, 5), refused(NONE, "cancel", 1, KEY),
            refused(NONE, "cancel", 2, LINE), refused(NONE, "cancel", 1, LINK), refused(NONE, "cancel", 3, LINE),
            refused(NONE, "cancel", 6, KEY), refused(BAD, "cancel", 2, 4), refused(BAD, "cancel", 8, KEY),
            refused(NOT, "echo", 3, 0), refused(NOT, "echo", 4, 0), refused(NOT, "echo", 6, 0),
            refused(BAD, "echo", 8, 0), refused(BAD, "type", 1, 31), refused(BAD, "type", 2, 9),
            refused(BAD, "type", 2, 127), refused(BAD, "type", 8, 65), refused(BAD, "click", 42, 0),
            refused(BAD, "click", 0, 13), refused(BAD, "click", -1, 0), refused(BAD, "event", 44),
            refused(BAD, "event", -1), refused(BAD, "count", 6));
    }

    /** One EVENT waits in busy(). */
    private static GlkPanes busyWithoutEvents() {
        GlkPanes x = busy();
        Due.is("the one that waits", x.take(), 4);
        return x;
    }

    @Says(NOTHING_CHANGES)
    static void nothingTakenChangesNothing() {
        changesNothing(RefusalTermsTest::busyWithoutEvents, refused(NONE, "take"));
    }

    @Says(NOTHING_CHANGES)
    static void nothingToldChangesNothing() {
        changesNothing(() -> Play.root(6, 3, TEXT), refused(NONE, "take"), refused(NONE, "event", 0),
            refused(BAD, "event", 44), refused(NONE, "cancel", 1, LINE));
    }

    private static GlkPanes gridWithALine() {
        GlkPanes x = Play.root(6, 3, GRID);
        x.sign(1, 'z');
        x.ask(1, LINE, 5);
        x.type(1, 'a');
        return x;
    }

    @Says(NOTHING_CHANGES)
    static void aRefusedCursorChangesNothingBesideALine() {
        changesNothing(RefusalTermsTest::gridWithALine, refused(NOT, "cursor", 1, 3, 1), refused(NOT, "wipe", 1),
            refused(NOT, "sign", 1, 65), refused(NOT, "sign", 1, END), refused(NOT, "ask", 1, LINE, 40));
    }

    private static GlkPanes with60NumbersAndNoRoot() {
        GlkPanes x = with60Numbers();
        x.close(60);
        return x;
    }

    @Says(NOTHING_CHANGES)
    static void whatIsFullChangesNothing() {
        changesNothing(RefusalTermsTest::withTwelve, refused(FULL, "open", 1, LEFT + SHARE, 50, TEXT),
            refused(FULL, "open", 23, ABOVE, 5, GRID));
        changesNothing(RefusalTermsTest::with59Numbers, refused(FULL, "open", 1, LEFT + SHARE, 50, TEXT));
        changesNothing(RefusalTermsTest::with60Numbers, refused(FULL, "open", 60, LEFT, 5, GRID));
        changesNothing(RefusalTermsTest::with60NumbersAndNoRoot, refused(FULL, "open", 0, 0, 0, TEXT));
    }
}
