import java.util.function.Supplier;

/**
 * All that the calls can tell of a screen where few EVENTS wait, as one text. An object has 512 calls alone, so the
 * screen is made anew for each part of the look.
 */
final class Look {
    private static final int PANES = 61, EVENT_FACTS = 44, MORE_THAN_A_LINE = 41, FEW_EVENTS = 4;

    private final Supplier<GlkPanes> screen;
    private final StringBuilder told = new StringBuilder();

    private Look(Supplier<GlkPanes> screen) {
        this.screen = screen;
    }

    static String at(Supplier<GlkPanes> screen) {
        Look l = new Look(screen);
        l.counts();
        l.events();
        for (int p = 1; p <= PANES; p++) {
            l.pane(p);
            l.asksOf(p);
            l.settingsOf(p);
        }
        int rows = screen.get().count(1);
        for (int row = 0; row < rows; row++) {
            l.row(row);
            l.rowWithoutAsks(row);
        }
        l.panesToCome();
        return l.told.toString();
    }

    private void tell(String what, int... facts) {
        told.append(what);
        for (int f : facts) {
            told.append(' ').append(f);
        }
        told.append('\n');
    }

    private void counts() {
        GlkPanes x = screen.get();
        tell("root", x.root());
        for (int i = 0; i <= 5; i++) {
            tell("count " + i, x.count(i));
        }
    }

    private void events() {
        GlkPanes x = screen.get();
        for (int taken = 0; taken < FEW_EVENTS; taken++) {
            for (int i = 0; i < EVENT_FACTS; i++) {
                tell("event", x.event(i));
            }
            tell("take", x.take());
        }
    }

    private void pane(int p) {
        GlkPanes x = screen.get();
        for (int i = 0; i <= 9; i++) {
            tell("pane " + p, x.pane(p, i), x.pair(p, i));
        }
        tell("cursor and lines " + p, x.at(p, 0), x.at(p, 1), x.lines(p));
    }

    /** More signs than any LINE takes, so that its LIMIT is told, too. */
    private void asksOf(int p) {
        GlkPanes x = screen.get();
        tell("KEY, LINK, CLICK of " + p, x.cancel(p, 0), x.cancel(p, 2), x.cancel(p, 3));
        for (int i = 0; i < MORE_THAN_A_LINE; i++) {
            x.type(p, 'm');
        }
        tell("LINE of " + p, x.cancel(p, 1), x.pane(p, 8));
    }

    private void settingsOf(int p) {
        GlkPanes x = screen.get();
        tell("settings of " + p, x.style(p, 1), x.link(p, 1), x.picture(p, 1), x.echo(p, true));
    }

    private void row(int row) {
        GlkPanes x = screen.get();
        int columns = x.count(0);
        for (int column = 0; column < columns; column++) {
            int p = x.under(column, row);
            int inX = column - x.pane(p, 3);
            int inY = row - x.pane(p, 4);
            tell("drawn", p, x.drawn(column, row));
            tell("shown", x.shown(p, inX, inY, 0), x.shown(p, inX, inY, 1), x.shown(p, inX, inY, 2));
        }
    }

    /** What stands below a LINE, and where the next sign comes, is seen when none is asked for any more. */
    private void rowWithoutAsks(int row) {
        GlkPanes x = screen.get();
        int made = x.count(4);
        for (int p = 1; p <= made; p++) {
            x.echo(p, false);
            x.cancel(p, 1);
            x.sign(p, 'n');
        }
        int columns = x.count(0);
        for (int column = 0; column < columns; column++) {
            tell("drawn then", x.drawn(column, row));
        }
    }

    private void panesToCome() {
        GlkPanes x = screen.get();
        tell("next", x.open(0, 0, 0, 1), x.open(1, 4, 50, 1), x.count(4));
    }
}
