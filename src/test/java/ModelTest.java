import java.util.Arrays;
import java.util.Random;

/** Runs of 512 random calls, from seeds that are always the same, each answer against the plain model's. */
public final class ModelTest {
    private static final int RUNS = 4000, CALLS = 512;
    private static final int[] WILD = {Integer.MIN_VALUE, -1000, -5, -4, -3, -2, -1, 0, 1, 2, 3, 4, 5, 7, 8, 9, 10, 11, 12, 13,
        15, 16, 23, 24, 25, 31, 32, 39, 40, 41, 43, 44, 59, 60, 61, 99, 100, 101, 126, 127, 999, 1000, Integer.MAX_VALUE};

    /** How often each call comes, by its place in the document's face; one row for each manner of run. */
    private static final int[][] OFTEN = {
        // op cl ar pa pr ro rs si st li cu at wi pi sh ln dr un as ca ec ty ck ta ev ct
        {4, 2, 4, 4, 4, 2, 2, 6, 2, 2, 2, 2, 1, 1, 6, 2, 6, 2, 4, 2, 1, 8, 4, 2, 2, 2},
        {8, 6, 8, 10, 6, 2, 4, 1, 1, 1, 1, 1, 1, 1, 1, 1, 6, 6, 1, 1, 1, 1, 1, 1, 1, 2},
        {1, 0, 1, 1, 0, 0, 1, 240, 2, 2, 3, 3, 0, 0, 18, 6, 4, 0, 1, 1, 0, 8, 1, 0, 0, 0},
        {2, 1, 1, 1, 0, 0, 1, 4, 1, 2, 2, 2, 0, 0, 6, 2, 2, 0, 14, 2, 1, 50, 10, 6, 16, 3},
    };

    private static final Calls REAL_CALLS = new Calls(GlkPanes.class);
    private static final Calls MODEL_CALLS = new Calls(PlainModel.class);

    private final Random random;
    private final GlkPanes real;
    private final PlainModel model;
    private final StringBuilder log = new StringBuilder();
    private final boolean wild;

    private ModelTest(long seed) {
        random = new Random(seed);
        int w = 1 + random.nextInt(random.nextInt(3) == 0 ? 62 : 20);
        int h = 1 + random.nextInt(random.nextInt(3) == 0 ? 26 : 10);
        real = new GlkPanes(w, h);
        model = new PlainModel(w, h);
        wild = seed % 3 == 0;
        log.append("new GlkPanes(").append(w).append(", ").append(h).append(")\n");
    }

    public static void main(String[] args) {
        int wrong = 0;
        for (long seed = 1; seed <= RUNS && wrong < 3; seed++) {
            ModelTest t = new ModelTest(seed);
            boolean same = t.run(OFTEN[(int) (seed % OFTEN.length)]);
            Due.isTrue("run of seed " + seed, same);
            if (!same) {
                wrong++;
                System.out.println(t.log);
            }
        }
        Due.end();
    }

    /** Small differences would hide long behind single calls, so the last ones of the 512 are looks at all of the state. */
    private boolean run(int[] often) {
        int all = 0;
        for (int n : often) {
            all += n;
        }
        int changes = 50 + random.nextInt(CALLS - 50);
        boolean same = random.nextInt(4) == 0 ? same("root") : same("open", 0, 0, 0, 1 + random.nextInt(2));
        for (int i = 1; i < CALLS && same; i++) {
            same = i < changes ? one(callOf(random.nextInt(all), often)) : look();
        }
        return same;
    }

    private static int callOf(int ticket, int[] often) {
        int call = 0;
        int left = ticket;
        while (left >= often[call]) {
            left -= often[call++];
        }
        return call;
    }

    private boolean look() {
        int p = 1 + random.nextInt(Math.max(1, model.count(4)));
        switch (random.nextInt(8)) {
            case 0: return same("pane", p, random.nextInt(10));
            case 1: return same("pair", p, random.nextInt(5));
            case 2: return same("at", p, random.nextInt(2));
            case 3: return same("lines", p);
            case 4: return same("under", x(), y());
            case 5: return shown();
            default: return same("drawn", x(), y());
        }
    }

    private int any(int least, int most) {
        if (wild && random.nextInt(30) == 0) {
            return WILD[random.nextInt(WILD.length)];
        }
        return least + random.nextInt(most - least + 1);
    }

    private int pane() {
        int made = model.count(4);
        if (random.nextInt(40) == 0) {
            return any(0, made + 1);
        }
        int from = Math.max(1, made - random.nextInt(2) * 8);
        for (int tries = 0; tries < 20; tries++) {
            int n = tries < 5 ? any(from, made + 1) : any(1, made + 1);
            if (model.pane(n, 0) >= 0) {
                return n;
            }
        }
        return model.root();
    }

    private int character() {
        int r = random.nextInt(20);
        return r < 4 ? 32 : r == 4 && random.nextInt(2) == 0 ? 10 : any(97, 122);
    }

    private int typed() {
        int r = random.nextInt(12);
        return r == 0 ? 8 : r == 1 ? 10 : character();
    }

    private int x() {
        return any(0, model.count(0) - 1);
    }

    private int y() {
        return any(0, model.count(1) - 1);
    }

    private boolean one(int call) {
        switch (call) {
            case 0: return same("open", random.nextInt(3) == 0 ? 0 : pane(), any(0, 15), random.nextInt(5) == 0 ? any(0, 200) : any(0, 60), any(0, 3));
            case 1: return same("close", pane());
            case 2: return same("arrange", pane(), any(0, 15), random.nextInt(5) == 0 ? any(0, 200) : any(0, 60), random.nextBoolean() ? 0 : pane());
            case 3: return same("pane", pane(), any(0, 9));
            case 4: return same("pair", pane(), any(0, 4));
            case 5: return same("root");
            case 6: return same("resize", any(2, 62), any(1, 26));
            case 7: return same("sign", pane(), character());
            case 8: return same("style", pane(), any(0, 10));
            case 9: return same("link", pane(), any(0, 3) * any(0, 333));
            case 10: return same("cursor", pane(), any(0, 20), any(0, 8));
            case 11: return same("at", pane(), any(0, 1));
            case 12: return same("wipe", pane());
            case 13: return same("picture", pane(), any(0, 2));
            case 14: return shown();
            case 15: return same("lines", pane());
            case 16: return same("drawn", x(), y());
            case 17: return same("under", x(), y());
            case 18: return same("ask", pane(), any(0, 3), any(1, 40));
            case 19: return same("cancel", pane(), any(0, 3));
            case 20: return same("echo", pane(), any(0, 1));
            case 21: return same("type", pane(), typed());
            case 22: return same("click", x(), y());
            case 23: return same("take");
            case 24: return same("event", random.nextBoolean() ? any(0, 4) : any(0, 43));
            default: return same("count", any(0, 5));
        }
    }

    private boolean shown() {
        int p = pane();
        return same("shown", p, any(0, Math.max(0, model.pane(p, 1))), any(0, Math.max(0, model.pane(p, 2) - 1)), any(0, 2));
    }

    private boolean same(String call, int... a) {
        log.append(call).append(Arrays.toString(a));
        int want = MODEL_CALLS.answer(model, call, a);
        int got = REAL_CALLS.answer(real, call, a);
        log.append(" answered ").append(got);
        if (got != want) {
            log.append(", the model ").append(want);
        }
        log.append('\n');
        return got == want;
    }
}
