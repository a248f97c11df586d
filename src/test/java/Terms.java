/** The document's numbers by their names. */
interface Terms {
    int BAD = GlkPanes.BAD, NONE = GlkPanes.NONE, NOT = GlkPanes.NOT, FULL = GlkPanes.FULL;
    int LEFT = 0, RIGHT = 1, ABOVE = 2, BELOW = 3, SHARE = 4, NO_BORDER = 8;
    int BLANK = 0, TEXT = 1, GRID = 2, PICTURE = 3, PAIR = 4;
    int KEY = 0, LINE = 1, LINK = 2, CLICK = 3;
    int BACK = 8, END = 10;

    /** What pane() tells. */
    int KIND_OF = 0, COLUMNS = 1, ROWS = 2, X = 3, Y = 4, PARENT = 5, STYLE_OF = 6, LINK_OF = 7, WRITTEN = 8, ECHOES = 9;

    /** What pair() tells. */
    int METHOD_OF = 0, SIZE_OF = 1, KEY_OF = 2, FIRST = 3, SECOND = 4;

    /** What count() tells. */
    int W = 0, H = 1, OPEN = 2, LEAVES = 3, MADE = 4, WAITING = 5;

    /** Numbers far outside of all that the document tells, where arithmetic would wrap around. */
    int LEAST_INT = Integer.MIN_VALUE, MOST_INT = Integer.MAX_VALUE;
}
