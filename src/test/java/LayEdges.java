/** Boundary cases of promises 1 to 8: a new object, what is laid, and what is told of it. */
final class LayEdges {
    private final Edges e;

    LayEdges(Edges e) {
        this.e = e;
    }

    void all() {
        nearestWidth();
        withoutSplits();
        imageOfANewObject();
        layIsZ();
        layOutside();
        layOnAFullColumn();
        layOnAFallenStack();
        laidAnewWhereOneWasTaken();
        barkOfNone();
        barkOfAFallenOne();
        measureOfNone();
        measureAPoint();
        measureNotAnyMore();
        spanAtFirst();
        spanOutside();
        weatherOutside();
        theThirteenthWeather();
        planAtFirst();
        planOutside();
        planOfAWeatherNotTold();
        endsOutside();
    }

    private void nearestWidth() {
        e.promise(1, "2 to 6; others: the nearest of these");
        int[][] widths = {{Edges.LEAST, 2}, {-6, 2}, {-1, 2}, {0, 2}, {1, 2}, {2, 2}, {3, 3}, {4, 4}, {5, 5}, {6, 6}, {7, 6}, {8, 6},
            {256 + 3, 6}, {Edges.MOST, 6}};
        for (int[] pair : widths) {
            WoodStack x = new WoodStack(pair[0]);
            e.due("W of " + pair[0], x.about(0), pair[1]);
            e.due("the last column of " + pair[0], x.lay(pair[1] - 1, 0, 1, 0), 0);
            e.due("a column more of " + pair[0], x.lay(pair[1], 0, 1, 0), -1);
        }
    }

    private void withoutSplits() {
        e.promise(1, "without SPLITS");
        for (int w = 2; w <= 6; w++) {
            WoodStack x = new WoodStack(w);
            e.due("splits of " + w, x.stack(3), 0);
            e.due("dry of " + w, x.stack(4), 0);
            e.due("lean of " + w, x.stack(0), 0);
            for (int column = 0; column < w; column++) {
                e.due("count of " + column, x.stack(20 + column), 0);
                e.due("height of " + column, x.stack(10 + column), 0);
                e.due("of column " + column, x.of(column, 0, 0), -1);
            }
        }
    }

    private void imageOfANewObject() {
        e.promise(1, "THE IMAGE is this");
        WoodStack x = new WoodStack(4);
        x.weather(1, 1, 1, 1);
        x.weather(1, 1, 1, 2);
        x.plan(0, 1);
        x.lay(3, 1, 2, 3);
        x.span(1, 5, 6);
        x.ends(9, true, 1);
        x.by(Check.read(x, "heat 1;"));
        x.week(0);
        x.remember();
        e.due("back() ahead of any image()", x.back(), 0);
        int[] first = {4, 0, 0, 0, -1, 0, 0, 0, 0, -1, 0};
        for (int what = 0; what < first.length; what++) {
            e.due("about(" + what + ")", x.about(what), first[what]);
        }
        e.due("no face", x.missing(0, 0), -1);
        x.lay(0, 1, 10, 500);
        e.due("the span at first, low", x.spans(0, 0, 0, 0), 0);
        e.due("the span at first, high", x.spans(0, 0, 0, 1), 2000);
        e.due("no text rules", x.of(0, 0, 7), 200);
    }

    private void layIsZ() {
        e.promise(2, "A SPLIT on top of a COLUMN: its z.");
        WoodStack x = new WoodStack(6);
        for (int z = 0; z < 8; z++) {
            for (int column = 0; column < 6; column++) {
                e.due("column " + column, x.lay(column, 3, 20, 2000), z);
            }
        }
        e.due("all places hold one", x.stack(3), 48);
    }

    private void layOutside() {
        e.promise(2, "NONE for others");
        for (int w = 2; w <= 6; w++) {
            WoodStack x = new WoodStack(w);
            int[][] wrong = {{-1, 0, 1, 0}, {w, 0, 1, 0}, {7, 0, 1, 0}, {Edges.MOST, 0, 1, 0}, {Edges.LEAST, 0, 1, 0}, {0, -1, 1, 0},
                {0, 4, 1, 0}, {0, 0, 0, 0}, {0, 0, 21, 0}, {0, 0, -1, 0}, {0, 0, 1, -1}, {0, 0, 1, 2001}};
            for (int[] a : wrong) {
                e.due("lay(" + a[0] + ", " + a[1] + ", " + a[2] + ", " + a[3] + ")", x.lay(a[0], a[1], a[2], a[3]), -1);
            }
            e.due("none is laid", x.stack(3), 0);
            e.due("the least of all", x.lay(0, 0, 1, 0), 0);
            e.due("the most of all", x.lay(w - 1, 3, 20, 2000), 0);
        }
    }

    private void layOnAFullColumn() {
        e.promise(2, "if it has 8");
        WoodStack x = new WoodStack(3);
        for (int z = 0; z < 8; z++) {
            x.lay(1, 0, 1, 7);
        }
        e.due("the ninth", x.lay(1, 0, 1, 9), -1);
        e.due("eight are there", x.stack(21), 8);
        e.due("the eighth is as it was", x.of(1, 7, 2), 7);
        e.due("no ninth", x.of(1, 8, 2), -1);
        e.due("the next column has room", x.lay(2, 0, 1, 9), 0);
        x.take(1);
        e.due("seven are there", x.stack(21), 7);
        e.due("room again", x.lay(1, 0, 1, 9), 7);
    }

    private void layOnAFallenStack() {
        e.promise(2, "THE STACK is FALLEN");
        WoodStack x = Edges.fallen(2);
        e.due("fallen", x.stack(2), 1);
        e.due("on one", x.lay(0, 0, 1, 1), -1);
        e.due("on an empty column", x.lay(1, 0, 1, 1), -1);
        x.take(2);
        e.due("when all is taken", x.lay(1, 0, 1, 1), -1);
        x.back();
        e.due("when it is gone back", x.lay(1, 0, 1, 1), 0);
    }

    private void laidAnewWhereOneWasTaken() {
        e.promise(2, "BARK up or not (at first up)");
        WoodStack x = new WoodStack(2);
        x.lay(0, 2, 9, 9);
        x.bark(0, 0, false);
        x.measure(0, 0, 5, 6);
        x.take(1);
        x.lay(0, 1, 3, 4);
        int[] want = {1, 3, 4, 1, -1, -1};
        for (int what = 0; what < want.length; what++) {
            e.due("of(0, 0, " + what + ")", x.of(0, 0, what), want[what]);
        }
    }

    private void barkOfNone() {
        e.promise(3, "False for others.");
        WoodStack x = Edges.full(2);
        int[][] wrong = {{-1, 0}, {2, 0}, {0, -1}, {0, 8}, {1, 8}, {Edges.LEAST, 0}, {Edges.MOST, 0}, {0, Edges.LEAST}, {0, Edges.MOST}};
        for (int[] a : wrong) {
            e.due("bark(" + a[0] + ", " + a[1] + ", false)", x.bark(a[0], a[1], false), false);
        }
        for (int column = 0; column < 2; column++) {
            for (int z = 0; z < 8; z++) {
                e.due("still up", x.of(column, z, 3), 1);
            }
        }
        e.due("the last of all", x.bark(1, 7, false), true);
        e.due("the one below it is up", x.of(1, 6, 3), 1);
        e.due("none in an empty column", new WoodStack(2).bark(0, 0, true), false);
    }

    private void barkOfAFallenOne() {
        e.promise(3, "BARK of a SPLIT is up, or not: true.");
        WoodStack x = Edges.fallen(2);
        e.due("down", x.bark(0, 1, false), true);
        e.due("is down", x.of(0, 1, 3), 0);
        e.due("down once more", x.bark(0, 1, false), true);
    }

    private void measureOfNone() {
        e.promise(4, "False for others.");
        WoodStack x = Edges.full(2);
        x.measure(0, 0, 10, 20);
        int[][] wrong = {{-1, 0, 1, 2}, {2, 0, 1, 2}, {0, -1, 1, 2}, {0, 8, 1, 2}, {2, 0, -1, 0}, {0, 8, -1, 0}, {0, 0, -2, 5},
            {0, 0, Edges.LEAST, 5}, {0, 0, 21, 20}, {0, 0, 0, 2001}, {0, 0, 2001, 2001}, {0, 0, 0, -1}, {0, 0, 0, Edges.MOST}};
        for (int[] a : wrong) {
            e.due("measure(" + a[0] + ", " + a[1] + ", " + a[2] + ", " + a[3] + ")", x.measure(a[0], a[1], a[2], a[3]), false);
        }
        e.due("low is as it was", x.of(0, 0, 4), 10);
        e.due("high is as it was", x.of(0, 0, 5), 20);
        e.due("the next is not measured", x.of(0, 1, 4), -1);
    }

    private void measureAPoint() {
        e.promise(4, "(0 <= LOW <= HIGH <= 2000)");
        WoodStack x = new WoodStack(2);
        x.lay(0, 0, 1, 77);
        int[][] right = {{0, 0}, {0, 2000}, {2000, 2000}, {77, 77}, {0, 1}};
        for (int[] a : right) {
            e.due("measure(0, 0, " + a[0] + ", " + a[1] + ")", x.measure(0, 0, a[0], a[1]), true);
            e.due("low", x.of(0, 0, 4), a[0]);
            e.due("high", x.of(0, 0, 5), a[1]);
        }
        e.due("its water is as it was", x.of(0, 0, 2), 77);
    }

    private void measureNotAnyMore() {
        e.promise(4, "(LOW NONE: not any more)");
        for (int high : new int[] {Edges.LEAST, -2, -1, 0, 2000, 2001, Edges.MOST}) {
            WoodStack x = new WoodStack(2);
            x.lay(1, 0, 1, 1);
            x.measure(1, 0, 0, 5);
            e.due("with high " + high, x.measure(1, 0, -1, high), true);
            e.due("low is none", x.of(1, 0, 4), -1);
            e.due("high is none", x.of(1, 0, 5), -1);
            e.due("of one that isn't measured", x.measure(1, 0, -1, high), true);
        }
    }

    private void spanAtFirst() {
        e.promise(5, "(at first 0, 2000)");
        WoodStack x = new WoodStack(4);
        for (int kind = 0; kind < 4; kind++) {
            x.lay(kind, kind, 1, 500);
            e.due("low of kind " + kind, x.spans(0, kind, 0, 0), 0);
            e.due("high of kind " + kind, x.spans(0, kind, 0, 1), 2000);
        }
    }

    private void spanOutside() {
        e.promise(5, "False for others.");
        WoodStack x = new WoodStack(4);
        for (int kind = 0; kind < 4; kind++) {
            x.lay(kind, kind, 1, 500);
            e.due("a point, of kind " + kind, x.span(kind, 10 * kind, 10 * kind), true);
        }
        int[][] wrong = {{-1, 0, 1}, {4, 0, 1}, {Edges.LEAST, 0, 1}, {Edges.MOST, 0, 1}, {0, -1, 1}, {0, 0, 2001}, {0, 2, 1},
            {0, 2001, 2001}, {0, 0, -1}, {0, -1, -1}, {0, 0, Edges.MOST}, {0, Edges.LEAST, 0}};
        for (int[] a : wrong) {
            e.due("span(" + a[0] + ", " + a[1] + ", " + a[2] + ")", x.span(a[0], a[1], a[2]), false);
        }
        for (int kind = 0; kind < 4; kind++) {
            e.due("low of kind " + kind, x.spans(0, kind, 0, 0), 10 * kind);
            e.due("high of kind " + kind, x.spans(0, kind, 0, 1), 10 * kind);
        }
        e.due("the lowest", x.span(0, 0, 0), true);
        e.due("the highest", x.span(3, 2000, 2000), true);
        e.due("the widest", x.span(1, 0, 2000), true);
    }

    private void weatherOutside() {
        e.promise(6, "NONE for others");
        WoodStack x = new WoodStack(2);
        int[][] wrong = {{-1, 0, 0, 0}, {10, 0, 0, 0}, {0, -1, 0, 0}, {0, 10, 0, 0}, {0, 0, -1, 0}, {0, 0, 10, 0}, {0, 0, 0, -1},
            {0, 0, 0, 41}, {Edges.MOST, 0, 0, 0}, {0, 0, 0, Edges.LEAST}};
        for (int[] a : wrong) {
            e.due("weather(" + a[0] + ", " + a[1] + ", " + a[2] + ", " + a[3] + ")", x.weather(a[0], a[1], a[2], a[3]), -1);
        }
        e.due("none is told", x.about(2), 0);
        e.due("the least", x.weather(0, 0, 0, 0), 0);
        e.due("the most", x.weather(9, 9, 9, 40), 1);
    }

    private void theThirteenthWeather() {
        e.promise(6, "if there are 12");
        WoodStack x = new WoodStack(2);
        for (int i = 0; i < 12; i++) {
            e.due("its number", x.weather(i % 10, 9, 0, 0), i);
        }
        e.due("the thirteenth", x.weather(0, 0, 0, 40), -1);
        e.due("twelve are told", x.about(2), 12);
        e.due("no week by the thirteenth", x.week(12), -1);
        e.due("a week by the twelfth", x.week(11), 1);
    }

    private void planAtFirst() {
        e.promise(7, "at first 0 for each");
        WoodStack x = new WoodStack(2);
        x.weather(0, 0, 0, 0);
        x.weather(1, 0, 0, 0);
        for (int k = 0; k < 40; k++) {
            e.due("about(" + (10 + k) + ")", x.about(10 + k), 0);
        }
    }

    private void planOutside() {
        e.promise(7, "False for others");
        WoodStack x = new WoodStack(2);
        x.weather(0, 0, 0, 0);
        x.weather(1, 0, 0, 0);
        for (int k : new int[] {Edges.LEAST, -1, 40, 41, Edges.MOST}) {
            e.due("plan(" + k + ", 1)", x.plan(k, 1), false);
        }
        for (int k = 0; k < 40; k++) {
            e.due("still 0", x.about(10 + k), 0);
        }
        e.due("the first", x.plan(0, 1), true);
        e.due("the last", x.plan(39, 1), true);
        e.due("told for the first", x.about(10), 1);
        e.due("not for the second", x.about(11), 0);
        e.due("not for the one ahead of the last", x.about(48), 0);
        e.due("told for the last", x.about(49), 1);
    }

    private void planOfAWeatherNotTold() {
        e.promise(7, "and a WEATHER that isn't told");
        WoodStack x = new WoodStack(2);
        e.due("0 of none", x.plan(0, 0), false);
        x.weather(0, 0, 0, 0);
        x.image();
        x.weather(0, 0, 0, 0);
        for (int weather : new int[] {Edges.LEAST, -1, 2, 11, 12, Edges.MOST}) {
            e.due("plan(0, " + weather + ")", x.plan(0, weather), false);
        }
        e.due("the last that is told", x.plan(0, 1), true);
        x.back();
        e.due("one that isn't told any more", x.plan(0, 1), false);
        e.due("the plan went back too", x.about(10), 0);
    }

    private void endsOutside() {
        e.promise(8, "False, changing nothing, for others.");
        WoodStack x = new WoodStack(2);
        e.due("the most", x.ends(9, true, 1), true);
        int[][] wrong = {{-1, 0}, {10, 0}, {Edges.LEAST, 0}, {Edges.MOST, 0}, {0, -1}, {0, 2}, {0, Edges.LEAST}, {0, Edges.MOST}, {-1, -1}};
        for (int[] a : wrong) {
            e.due("ends(" + a[0] + ", false, " + a[1] + ")", x.ends(a[0], false, a[1]), false);
            e.due("posts", x.about(5), 9);
            e.due("crossed", x.about(6), 1);
            e.due("side", x.about(7), 1);
        }
        e.due("the least", x.ends(0, false, 0), true);
        e.due("stands by W alone", x.stack(1), 20);
    }
}
