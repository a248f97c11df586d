import java.util.ArrayDeque;
import java.util.ArrayList;
import java.util.HashMap;
import java.util.List;
import java.util.Map;
import java.util.TreeMap;

/** The document told a second time, slowly and in another way, for ModelTest to compare with. */
final class PlainModel {
    private static final int BAD = -1, NONE = -2, NOT = -3, FULL = -4;

    /** A sign with its STYLE and LINK. */
    private record Ink(int sign, int style, int link) {
        static final Ink NOTHING = new Ink(32, 0, 0);

        int fact(int what) {
            return what == 0 ? sign : what == 1 ? style : link;
        }
    }

    private record Place(int x, int y) {
    }

    private record Room(int x, int y, int columns, int rows) {
        static final Room NO_ROOM = new Room(0, 0, 0, 0);

        static Room of(int x, int y, int columns, int rows) {
            return columns <= 0 || rows <= 0 ? NO_ROOM : new Room(x, y, columns, rows);
        }

        boolean holds(int px, int py) {
            return px >= x && px < x + columns && py >= y && py < y + rows;
        }
    }

    private static final class Node {
        int number, kind, parent;
        Room room = Room.NO_ROOM;
        int style, link, written, picture;
        boolean echoes = true;
        int method, size, key, left, right;
        final List<Ink> text = new ArrayList<>();
        final Map<Place, Ink> grid = new HashMap<>();
        int cx, cy;
        final Map<Integer, Integer> asks = new HashMap<>();
        String line = "";

        boolean takesSigns() {
            return kind == 1 || kind == 2;
        }

        boolean asksLine() {
            return asks.containsKey(1);
        }
    }

    private int w, h, made, rootNumber;
    private final TreeMap<Integer, Node> open = new TreeMap<>();
    private final ArrayDeque<int[]> events = new ArrayDeque<>();
    private int[] told;

    PlainModel(int w, int h) {
        setSize(w, h);
    }

    private void setSize(int newW, int newH) {
        w = newW < 4 ? 4 : newW > 60 ? 60 : newW;
        h = newH < 2 ? 2 : newH > 24 ? 24 : newH;
    }

    private Node node(int number) {
        return open.get(number);
    }

    private static boolean within(int v, int least, int most) {
        return v >= least && v <= most;
    }

    private static boolean badMeasure(int method, int size) {
        return !within(method, 0, 15) || !within(size, 0, method / 4 % 2 == 1 ? 100 : 999);
    }

    private long leaves() {
        return open.values().stream().filter(n -> n.kind != 4).count();
    }

    int open(int split, int method, int size, int kind) {
        boolean first = split == 0;
        if (!within(kind, 0, 3) || (!first && (node(split) == null || badMeasure(method, size)))) {
            return BAD;
        }
        if (first ? rootNumber != 0 : method / 4 % 2 == 0 && kind == 0) {
            return NOT;
        }
        if (leaves() >= 12 || made + (first ? 1 : 2) > 60) {
            return FULL;
        }
        Node fresh = create(kind);
        if (first) {
            rootNumber = fresh.number;
        } else {
            Node pair = create(4);
            pair.method = method;
            pair.size = size;
            pair.key = fresh.number;
            Node old = node(split);
            putInPlaceOf(old, pair);
            boolean ahead = method % 2 == 0;
            pair.left = ahead ? fresh.number : split;
            pair.right = ahead ? split : fresh.number;
            fresh.parent = pair.number;
            old.parent = pair.number;
        }
        layout();
        return fresh.number;
    }

    private Node create(int kind) {
        Node n = new Node();
        n.number = ++made;
        n.kind = kind;
        open.put(n.number, n);
        return n;
    }

    private void putInPlaceOf(Node old, Node by) {
        by.parent = old.parent;
        Node up = node(old.parent);
        if (up == null) {
            rootNumber = by.number;
        } else if (up.left == old.number) {
            up.left = by.number;
        } else {
            up.right = by.number;
        }
    }

    int close(int pane) {
        Node n = node(pane);
        if (n == null) {
            return BAD;
        }
        Node up = node(n.parent);
        if (up == null) {
            rootNumber = 0;
        } else {
            putInPlaceOf(up, node(up.left == pane ? up.right : up.left));
            open.remove(up.number);
        }
        drop(n);
        for (Node p : open.values()) {
            if (!open.containsKey(p.key)) {
                p.key = 0;
            }
        }
        layout();
        return n.written;
    }

    private void drop(Node n) {
        open.remove(n.number);
        if (n.kind == 4) {
            drop(node(n.left));
            drop(node(n.right));
        }
    }

    private List<Integer> below(Node n) {
        List<Integer> all = new ArrayList<>();
        if (n.kind == 4) {
            for (int side : new int[] {n.left, n.right}) {
                all.add(side);
                all.addAll(below(node(side)));
            }
        }
        return all;
    }

    int arrange(int pair, int method, int size, int key) {
        Node n = node(pair);
        if (n == null || n.kind != 4 || badMeasure(method, size)) {
            return BAD;
        }
        if (key != 0 && (!below(n).contains(key) || node(key).kind == 4)) {
            return BAD;
        }
        int then = key == 0 ? n.key : key;
        if (method / 2 % 2 != n.method / 2 % 2) {
            return NOT;
        }
        if (method / 4 % 2 == 0 && then != 0 && node(then).kind == 0) {
            return NOT;
        }
        if (method % 2 != n.method % 2) {
            int left = n.left;
            n.left = n.right;
            n.right = left;
        }
        n.method = method;
        n.size = size;
        n.key = then;
        layout();
        return 1;
    }

    private int layout() {
        Map<Integer, Room> before = new HashMap<>();
        open.forEach((number, n) -> before.put(number, n.room));
        if (rootNumber != 0) {
            place(node(rootNumber), new Room(0, 0, w, h));
        }
        int changed = 0;
        for (Node n : open.values()) {
            changed += n.room.equals(before.get(n.number)) ? 0 : 1;
            n.grid.keySet().removeIf(p -> p.x >= n.room.columns || p.y >= n.room.rows);
        }
        return changed;
    }

    private void place(Node n, Room r) {
        n.room = r;
        if (n.kind != 4) {
            return;
        }
        boolean columns = n.method % 4 < 2;
        int room = columns ? r.columns : r.rows;
        int b = n.method < 8 && room > 0 ? 1 : 0;
        int m = Math.min(room - b, n.method / 4 % 2 == 1 ? room * n.size / 100 : wish(node(n.key), n.size, columns));
        int ahead = n.method % 2 == 0 ? m : room - b - m;
        int behind = room - b - ahead;
        if (columns) {
            place(node(n.left), Room.of(r.x, r.y, ahead, r.rows));
            place(node(n.right), Room.of(r.x + ahead + b, r.y, behind, r.rows));
        } else {
            place(node(n.left), Room.of(r.x, r.y, r.columns, ahead));
            place(node(n.right), Room.of(r.x, r.y + ahead + b, r.columns, behind));
        }
    }

    private static int wish(Node key, int size, boolean columns) {
        if (key == null || key.kind == 0) {
            return 0;
        }
        return key.kind == 3 ? (int) Math.ceil(size / (columns ? 8.0 : 16.0)) : size;
    }

    int pane(int pane, int what) {
        Node n = node(pane);
        if (n == null || !within(what, 0, 9)) {
            return BAD;
        }
        return new int[] {n.kind, n.room.columns, n.room.rows, n.room.x, n.room.y, n.parent, n.style, n.link,
            n.written, n.echoes ? 1 : 0}[what];
    }

    int pair(int pane, int what) {
        Node n = node(pane);
        if (n == null || n.kind != 4 || !within(what, 0, 4)) {
            return BAD;
        }
        return new int[] {n.method, n.size, n.key == 0 ? NONE : n.key, n.left, n.right}[what];
    }

    int root() {
        return rootNumber == 0 ? NONE : rootNumber;
    }

    int resize(int newW, int newH) {
        setSize(newW, newH);
        happen(4, 0, w, h, "");
        return layout();
    }

    private void happen(int kind, int pane, int first, int second, String line) {
        int[] e = new int[44];
        e[0] = kind;
        e[1] = pane;
        e[2] = first;
        e[3] = second;
        for (int i = 0; i < line.length(); i++) {
            e[4 + i] = line.charAt(i);
        }
        events.addLast(e);
        if (events.size() > 20) {
            events.removeFirst();
        }
    }

    private void writeTo(Node n, Ink ink) {
        n.written++;
        if (n.kind == 1) {
            if (n.text.size() == 400) {
                int i = 0;
                while (i < 400 && n.text.get(i).sign != 10) {
                    i++;
                }
                n.text.subList(0, i == 400 ? 1 : i + 1).clear();
            }
            n.text.add(ink);
            return;
        }
        if (ink.sign == 10 || n.cx >= n.room.columns) {
            n.cx = 0;
            n.cy++;
        }
        if (ink.sign != 10) {
            setGrid(n, n.cx, n.cy, ink);
            n.cx++;
        }
    }

    private static void setGrid(Node n, int x, int y, Ink ink) {
        if (x < n.room.columns && y < n.room.rows) {
            n.grid.put(new Place(x, y), ink);
        }
    }

    int sign(int pane, int c) {
        Node n = node(pane);
        if (n == null || !(c == 10 || within(c, 32, 126))) {
            return BAD;
        }
        if (!n.takesSigns() || n.asksLine()) {
            return NOT;
        }
        writeTo(n, new Ink(c, n.style, n.link));
        return 1;
    }

    int style(int pane, int s) {
        Node n = node(pane);
        if (n == null || !within(s, 0, 10)) {
            return BAD;
        }
        if (n.kind == 4) {
            return NOT;
        }
        int was = n.style;
        n.style = s;
        return was;
    }

    int link(int pane, int v) {
        Node n = node(pane);
        if (n == null || !within(v, 0, 999)) {
            return BAD;
        }
        if (n.kind == 4) {
            return NOT;
        }
        int was = n.link;
        n.link = v;
        return was;
    }

    int cursor(int pane, int x, int y) {
        Node n = node(pane);
        if (n == null || !within(x, 0, 99) || !within(y, 0, 99)) {
            return BAD;
        }
        if (n.kind != 2 || n.asksLine()) {
            return NOT;
        }
        n.cx = x;
        n.cy = y;
        return x < n.room.columns && y < n.room.rows ? 1 : 0;
    }

    int at(int pane, int axis) {
        Node n = node(pane);
        if (n == null || !within(axis, 0, 1)) {
            return BAD;
        }
        return n.kind != 2 ? NOT : axis == 0 ? n.cx : n.cy;
    }

    int wipe(int pane) {
        Node n = node(pane);
        if (n == null) {
            return BAD;
        }
        if (!n.takesSigns() || n.asksLine()) {
            return NOT;
        }
        n.text.clear();
        n.grid.clear();
        n.cx = 0;
        n.cy = 0;
        return 1;
    }

    int picture(int pane, int number) {
        Node n = node(pane);
        if (n == null || !within(number, 0, 999)) {
            return BAD;
        }
        if (n.kind != 3) {
            return NOT;
        }
        int was = n.picture;
        n.picture = number;
        return was;
    }

    private static List<List<Ink>> linesOf(Node n) {
        List<List<Ink>> lines = new ArrayList<>();
        List<Ink> all = new ArrayList<>(n.text);
        n.line.chars().forEach(c -> all.add(new Ink(c, 8, 0)));
        int width = n.room.columns;
        if (all.isEmpty() || width == 0) {
            return lines;
        }
        List<List<Ink>> paragraphs = new ArrayList<>();
        paragraphs.add(new ArrayList<>());
        for (Ink ink : all) {
            if (ink.sign == 10) {
                paragraphs.add(new ArrayList<>());
            } else {
                paragraphs.get(paragraphs.size() - 1).add(ink);
            }
        }
        for (List<Ink> rest : paragraphs) {
            if (rest.isEmpty()) {
                lines.add(rest);
            }
            while (!rest.isEmpty()) {
                rest = takeLine(rest, width, lines);
            }
        }
        return lines;
    }

    /** Adds the first LINE of what is left, and answers what is left then. */
    private static List<Ink> takeLine(List<Ink> rest, int width, List<List<Ink>> lines) {
        if (rest.size() <= width) {
            lines.add(rest);
            return List.of();
        }
        int cut = -1;
        for (int i = 0; i <= width; i++) {
            cut = rest.get(i).sign == 32 ? i : cut;
        }
        if (cut < 0) {
            lines.add(rest.subList(0, width));
            return rest.subList(width, rest.size());
        }
        lines.add(rest.subList(0, cut));
        List<Ink> left = rest.subList(cut, rest.size());
        while (!left.isEmpty() && left.get(0).sign == 32) {
            left = left.subList(1, left.size());
        }
        return left;
    }

    private static Ink inkAt(Node n, int x, int y) {
        if (n.kind == 2) {
            int typed = x - n.cx;
            if (y == n.cy && typed >= 0 && typed < n.line.length()) {
                return new Ink(n.line.charAt(typed), 8, 0);
            }
            return n.grid.getOrDefault(new Place(x, y), Ink.NOTHING);
        }
        List<List<Ink>> lines = linesOf(n);
        List<List<Ink>> seen = lines.subList(Math.max(0, lines.size() - n.room.rows), lines.size());
        return y < seen.size() && x < seen.get(y).size() ? seen.get(y).get(x) : Ink.NOTHING;
    }

    int shown(int pane, int x, int y, int what) {
        Node n = node(pane);
        if (n == null || !within(what, 0, 2) || !within(x, 0, n.room.columns - 1) || !within(y, 0, n.room.rows - 1)) {
            return BAD;
        }
        return n.takesSigns() ? inkAt(n, x, y).fact(what) : NOT;
    }

    int lines(int pane) {
        Node n = node(pane);
        return n == null ? BAD : n.kind != 1 ? NOT : linesOf(n).size();
    }

    private boolean offScreen(int x, int y) {
        return !within(x, 0, w - 1) || !within(y, 0, h - 1);
    }

    private Node leafAt(int x, int y) {
        for (Node n : open.values()) {
            if (n.kind != 4 && n.room.holds(x, y)) {
                return n;
            }
        }
        return null;
    }

    int drawn(int x, int y) {
        if (offScreen(x, y)) {
            return BAD;
        }
        Node n = leafAt(x, y);
        if (n == null) {
            return borderAt(x, y);
        }
        if (n.takesSigns()) {
            return inkAt(n, x - n.room.x, y - n.room.y).sign;
        }
        return n.kind == 3 && n.picture != 0 ? 35 : 32;
    }

    /** The smallest PAIR that has the place has the BORDER there. */
    private int borderAt(int x, int y) {
        Node owner = null;
        for (Node n : open.values()) {
            if (n.kind == 4 && n.room.holds(x, y) && (owner == null || below(owner).contains(n.number))) {
                owner = n;
            }
        }
        return owner == null ? 32 : owner.method % 4 < 2 ? 124 : 45;
    }

    int under(int x, int y) {
        if (offScreen(x, y)) {
            return BAD;
        }
        Node n = leafAt(x, y);
        return n == null ? NONE : n.number;
    }

    int ask(int pane, int kind, int limit) {
        Node n = node(pane);
        if (n == null || !within(kind, 0, 3) || (kind == 1 && !within(limit, 1, 40))) {
            return BAD;
        }
        if (!n.takesSigns() || (kind == 3 && n.kind != 2) || n.asks.containsKey(kind)) {
            return NOT;
        }
        if (kind < 2 && n.asks.containsKey(1 - kind)) {
            return NOT;
        }
        n.asks.put(kind, limit);
        return 1;
    }

    int cancel(int pane, int kind) {
        Node n = node(pane);
        if (n == null || !within(kind, 0, 3)) {
            return BAD;
        }
        if (!n.asks.containsKey(kind)) {
            return NONE;
        }
        n.asks.remove(kind);
        return kind == 1 ? endLine(n).length() : 1;
    }

    private String endLine(Node n) {
        String line = n.line;
        n.line = "";
        if (n.echoes && n.kind == 1) {
            line.chars().forEach(c -> writeTo(n, new Ink(c, 8, 0)));
            writeTo(n, new Ink(10, 8, 0));
        } else if (n.echoes) {
            for (int i = 0; i < line.length(); i++) {
                setGrid(n, n.cx + i, n.cy, new Ink(line.charAt(i), 8, 0));
            }
            n.cx = 0;
            n.cy++;
            n.written += line.length() + 1;
        }
        return line;
    }

    int echo(int pane, boolean is) {
        Node n = node(pane);
        if (n == null) {
            return BAD;
        }
        if (!n.takesSigns()) {
            return NOT;
        }
        int was = n.echoes ? 1 : 0;
        n.echoes = is;
        return was;
    }

    int type(int pane, int c) {
        Node n = node(pane);
        if (n == null || !(c == 8 || c == 10 || within(c, 32, 126))) {
            return BAD;
        }
        if (n.asks.containsKey(0)) {
            n.asks.remove(0);
            happen(0, pane, c, 0, "");
            return 1;
        }
        if (!n.asksLine()) {
            return 0;
        }
        if (c == 10) {
            n.asks.remove(1);
            String line = endLine(n);
            happen(1, pane, line.length(), 0, line);
            return 1;
        }
        if (c == 8) {
            n.line = n.line.isEmpty() ? "" : n.line.substring(0, n.line.length() - 1);
        } else if (n.line.length() < n.asks.get(1)) {
            n.line += (char) c;
        }
        return 0;
    }

    int click(int x, int y) {
        if (offScreen(x, y)) {
            return BAD;
        }
        Node n = leafAt(x, y);
        if (n == null || !n.takesSigns()) {
            return 0;
        }
        int column = x - n.room.x;
        int row = y - n.room.y;
        if (n.asks.remove(3) != null) {
            happen(3, n.number, column, row, "");
            return 1;
        }
        int link = inkAt(n, column, row).link;
        if (link != 0 && n.asks.remove(2) != null) {
            happen(2, n.number, link, 0, "");
            return 1;
        }
        return 0;
    }

    int take() {
        if (events.isEmpty()) {
            return NONE;
        }
        told = events.removeFirst();
        return told[0];
    }

    int event(int what) {
        if (!within(what, 0, 43)) {
            return BAD;
        }
        return told == null ? NONE : told[what];
    }

    int count(int what) {
        if (!within(what, 0, 5)) {
            return BAD;
        }
        return new int[] {w, h, open.size(), (int) leaves(), made, events.size()}[what];
    }
}
