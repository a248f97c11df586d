/** All that the calls can tell of a screen, as one text. */
final class Look {
    private static final int MOST_PANES = 61, EVENT_FACTS = 44;

    private final GlkPanes x;
    private final StringBuilder told = new StringBuilder();

    private Look(GlkPanes x) {
        this.x = x;
    }

    /** The screen is another one after this: what it asks for and what waits can't be seen in another way. */
    static String at(GlkPanes x) {
        Look l = new Look(x);
        l.panes();
        l.screen();
        l.events();
        l.asks();
        l.settings();
        l.screen();
        l.tell("next", x.open(0, 0, 0, 1), x.open(1, 4, 50, 1), x.count(4));
        return l.told.toString();
    }

    private void tell(String what, int... facts) {
        told.append(what);
        for (int f : facts) {
            told.append(' ').append(f);
        }
        told.append('\n');
    }

    private void panes() {
        tell("root", x.root());
        for (int i = 0; i <= 5; i++) {
            tell("count " + i, x.count(i));
        }
        for (int p = 1; p <= MOST_PANES; p++) {
            for (int i = 0; i <= 9; i++) {
                tell("pane " + p, x.pane(p, i), x.pair(p, i));
            }
            tell("cursor and lines " + p, x.at(p, 0), x.at(p, 1), x.lines(p));
        }
    }

    private void screen() {
        for (int row = 0; row < x.count(1); row++) {
            for (int column = 0; column < x.count(0); column++) {
                tell("drawn", x.drawn(column, row), x.under(column, row));
                int p = x.under(column, row);
                int inX = column - x.pane(p, 3);
                int inY = row - x.pane(p, 4);
                tell("shown", x.shown(p, inX, inY, 0), x.shown(p, inX, inY, 1), x.shown(p, inX, inY, 2));
            }
        }
    }

    private void events() {
        do {
            for (int i = 0; i < EVENT_FACTS; i++) {
                tell("event", x.event(i));
            }
        } while (x.take() >= 0);
    }

    /** More signs than any LINE takes, so that its LIMIT is told, too. */
    private void asks() {
        for (int p = 1; p <= MOST_PANES; p++) {
            tell("KEY, LINK, CLICK of " + p, x.cancel(p, 0), x.cancel(p, 2), x.cancel(p, 3));
            for (int i = 0; i < 41; i++) {
                x.type(p, 'm');
            }
            tell("LINE of " + p, x.cancel(p, 1), x.pane(p, 8));
        }
    }

    private void settings() {
        for (int p = 1; p <= MOST_PANES; p++) {
            tell("settings of " + p, x.sign(p, 'n'), x.style(p, 1), x.link(p, 1), x.picture(p, 1), x.echo(p, true));
        }
    }
}
