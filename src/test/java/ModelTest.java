import java.util.Random;

/** Long runs of drawn calls (seeds are fixed), each answer held against PlainModel's. */
public final class ModelTest {
    private static final int RUNS = 400;
    // The document tells nothing of later calls; the longest step is a text, of less than thirty.
    private static final int CALLS = 512 - 30;

    private final Check check;
    private final Random draw;
    private final int run;
    private final WoodStack x;
    private final PlainModel m;
    private final int w;
    // A run keeps to few or to many weeks: else every stack lies fallen soon.
    private final boolean calm;
    // Some runs take and clear little, so that stacks grow full.
    private final boolean growing;

    private ModelTest(Check check, int run) {
        this.check = check;
        this.run = run;
        draw = new Random(run * 7919L + 13);
        int told = draw.nextInt(9);
        x = new WoodStack(told);
        m = new PlainModel(told);
        w = m.about(0);
        calm = draw.nextBoolean();
        growing = draw.nextInt(3) != 0;
    }

    public static void main(String[] args) {
        Check check = new Check();
        for (int run = 0; run < RUNS && check.wrong() < 20; run++) {
            new ModelTest(check, run).go();
        }
        check.finish();
    }

    private void go() {
        int calls = 0;
        for (int i = 0; i < 3; i++) {
            int[] a = {draw.nextInt(10), draw.nextInt(10), draw.nextInt(10), draw.nextInt(41)};
            due("weather", x.weather(a[0], a[1], a[2], a[3]), m.weather(a[0], a[1], a[2], a[3]));
            calls++;
        }
        if (run % 20 == 0) {
            for (int i = 0; i < 355 + draw.nextInt(30); i++) {
                due("week(0)", x.week(0), m.week(0));
                calls++;
            }
        }
        while (calls < CALLS && check.wrong() < 20) {
            calls += step();
        }
    }

    private void due(String call, long got, long want) {
        check.due("run " + run + ": " + call, got, want);
    }

    private void due(String call, boolean got, boolean want) {
        check.due("run " + run + ": " + call, got, want);
    }

    /** From low to high, now and then a little or far outside. */
    private int near(int low, int high) {
        int odd = draw.nextInt(40);
        if (odd == 0) {
            return low - 1;
        }
        if (odd == 1) {
            return high + 1;
        }
        if (odd == 2) {
            return draw.nextInt();
        }
        return low + draw.nextInt(high - low + 1);
    }

    /** A place in a column where mostly a split lies. */
    private int place(int column) {
        int splits = column >= 0 && column < w ? m.stack(20 + column) : 0;
        return splits == 0 || draw.nextInt(8) == 0 ? near(0, 7) : draw.nextInt(splits);
    }

    private int step() {
        int kind = draw.nextInt(100);
        if (growing && (kind >= 43 && kind < 45 || kind >= 53 && kind < 56 || kind == 58 || kind == 59) && draw.nextInt(6) != 0) {
            kind = 0;
        }
        if (kind < 22) {
            int a = near(0, w - 1), b = near(0, 3), c = near(1, 20), d = draw.nextInt(3) == 0 ? near(0, 400) : near(0, 2000);
            due("lay(" + a + ", " + b + ", " + c + ", " + d + ")", x.lay(a, b, c, d), m.lay(a, b, c, d));
        } else if (kind < 60) {
            change(kind);
        } else if (kind < 66) {
            return tellText();
        } else {
            ask(kind);
        }
        return 1;
    }

    private void change(int kind) {
        int a = near(0, w - 1), b = place(a), c = near(-1, 2000), d = c + near(0, 300);
        boolean flag = draw.nextBoolean();
        if (kind < 26) {
            due("bark(" + a + ", " + b + ", " + flag + ")", x.bark(a, b, flag), m.bark(a, b, flag));
        } else if (kind < 30) {
            due("measure(" + a + ", " + b + ", " + c + ", " + d + ")", x.measure(a, b, c, d), m.measure(a, b, c, d));
        } else if (kind < 32) {
            int k = near(0, 3);
            due("span(" + k + ", " + c + ", " + d + ")", x.span(k, c, d), m.span(k, c, d));
        } else if (kind < 34) {
            int e = near(0, 9), f = near(0, 9), g = near(0, 9), h = near(0, 40);
            due("weather(" + e + ", " + f + ", " + g + ", " + h + ")", x.weather(e, f, g, h), m.weather(e, f, g, h));
        } else if (kind < 38) {
            int k = near(0, 39), weather = near(0, Math.max(0, m.about(2) - 1));
            due("plan(" + k + ", " + weather + ")", x.plan(k, weather), m.plan(k, weather));
        } else if (kind < 40) {
            int posts = near(0, 9), side = near(0, 1);
            due("ends(" + posts + ", " + flag + ", " + side + ")", x.ends(posts, flag, side), m.ends(posts, flag, side));
        } else if (kind < 43) {
            int text = near(-1, Math.max(0, m.about(3) - 1));
            due("by(" + text + ")", x.by(text), m.by(text));
        } else if (kind < 45) {
            int text = near(0, 3);
            due("laid(" + text + ")", x.laid(text), m.laid(text));
        } else if (kind < 53) {
            int weather = near(0, Math.max(0, m.about(2) - 1));
            if (!calm || draw.nextInt(8) == 0) {
                due("week(" + weather + ")", x.week(weather), m.week(weather));
            }
        } else if (kind < 56) {
            int n = draw.nextInt(4) == 0 ? near(1, 48) : near(1, 3);
            due("take(" + n + ")", x.take(n), m.take(n));
        } else if (kind < 57) {
            due("remember()", x.remember(), m.remember());
        } else if (kind < 58) {
            due("image()", x.image(), m.image());
        } else if (draw.nextInt(3) == 0) {
            due("back()", x.back(), m.back());
        }
    }

    private void ask(int kind) {
        int c = near(0, w - 1), z = place(c), n = draw.nextInt(3) == 0 ? near(0, 40) : near(0, 6);
        if (kind < 74) {
            int what = near(0, 8);
            due("of(" + c + ", " + z + ", " + what + ")", x.of(c, z, what), m.of(c, z, what));
        } else if (kind < 80) {
            int what = draw.nextInt(3) == 0 ? near(7, 27) : near(0, 6);
            due("stack(" + what + ")", x.stack(what), m.stack(what));
        } else if (kind < 82) {
            // The model is slow: long orders of wide stacks are asked seldom.
            int k = draw.nextInt(20) == 0 ? near(4, 5) : near(1, 3), what = draw.nextBoolean() ? 0 : near(10, 14);
            due("order(" + k + ", " + what + ")", x.order(k, what), m.order(k, what));
        } else if (kind < 84) {
            int way = near(-1, 7), what = near(0, 2);
            due("way(" + n + ", " + way + ", " + what + ")", x.way(n, way, what), m.way(n, way, what));
        } else if (kind < 86) {
            int what = near(0, 1);
            due("spans(" + n + ", " + c + ", " + z + ", " + what + ")", x.spans(n, c, z, what), m.spans(n, c, z, what));
        } else if (kind < 88) {
            int what = near(0, 2);
            due("sure(" + n + ", " + what + ")", x.sure(n, what), m.sure(n, what));
        } else if (kind < 90) {
            int k = near(0, 3), water = draw.nextBoolean() ? near(0, 500) : near(0, 2000);
            due("small(" + k + ", " + water + ", " + n + ")", x.small(k, water, n), m.small(k, water, n));
        } else if (kind < 92) {
            int heat = draw.nextInt(4) == 0 ? near(1, 999999) : near(1, 4000);
            due("winter(" + heat + ")", x.winter(heat), m.winter(heat));
        } else if (kind < 94) {
            int column = near(-1, w - 1), k = column == -1 ? near(0, 48) : draw.nextInt(10) == 0 ? near(0, 2) : 0;
            due("missing(" + column + ", " + k + ")", x.missing(column, k), m.missing(column, k));
        } else if (kind < 95) {
            int seed = near(0, 9999), count = near(1, 20);
            due("falls(" + seed + ", " + count + ", " + n + ")", x.falls(seed, count, n), m.falls(seed, count, n));
        } else if (kind < 97) {
            int what = near(0, 1);
            due("fault(" + what + ")", x.fault(what), m.fault(what));
        } else {
            int what = near(0, 50);
            due("about(" + what + ")", x.about(what), m.about(what));
        }
    }

    private int tellText() {
        String text = new DrawnText(draw).write();
        int calls = 4;
        if (draw.nextInt(4) != 0) {
            due("end(0)", x.end(0), m.end(0));
            calls++;
        }
        for (int i = 0; i < text.length(); i += 20) {
            int a = Check.four(text, i), b = Check.four(text, i + 4), c = Check.four(text, i + 8);
            int d = Check.four(text, i + 12), e = Check.four(text, i + 16);
            due("feed", x.feed(a, b, c, d, e), m.feed(a, b, c, d, e));
            calls++;
        }
        due("end(" + text.length() + ")", x.end(text.length()), m.end(text.length()));
        due("text() of " + m.tape, x.text(), m.text());
        due("fault(0) of " + text, x.fault(0), m.fault(0));
        due("fault(1) of " + text, x.fault(1), m.fault(1));
        int latest = m.about(3) - 1;
        if (m.fault(0) == 0 && draw.nextBoolean()) {
            due("by(" + latest + ")", x.by(latest), m.by(latest));
            calls++;
        }
        return calls;
    }
}
