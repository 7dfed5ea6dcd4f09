/** Boundary cases of promises 21 to 23: spans of water, which to measure next, and how small to split. */
final class SpanEdges {
    private final Edges e;

    SpanEdges(Edges e) {
        this.e = e;
    }

    void all() {
        spansOutside();
        spansWithoutWeathers();
        spansBeyond399();
        spansTurnedRound();
        spansOfAFallenStack();
        sureOutside();
        sureOfNone();
        sureUpTo200();
        nextOfNone();
        nextOfLikeOnes();
        nextOfAFullStack();
        sureWithoutWeathers();
        smallOutside();
        smallOfNone();
        smallUpTo200();
        smallWithoutWeathers();
        smallBesideAFullStack();
    }

    private void spansOutside() {
        e.promise(21, "NONE for others");
        WoodStack x = Edges.full(2);
        x.weather(0, 0, 0, 0);
        for (int n : new int[] {Edges.LEAST, -1, 41, 42, Edges.MOST}) {
            e.due("spans(" + n + ", 0, 0, 0)", x.spans(n, 0, 0, 0), -1);
        }
        int[][] wrong = {{-1, 0, 0}, {2, 0, 0}, {0, -1, 0}, {0, 8, 0}, {0, 0, -1}, {0, 0, 2}, {Edges.MOST, 0, 0}, {0, Edges.MOST, 0},
            {0, 0, Edges.MOST}, {Edges.LEAST, 0, 0}, {0, Edges.LEAST, 0}, {0, 0, Edges.LEAST}};
        for (int[] a : wrong) {
            for (int n : new int[] {0, 1}) {
                e.due("spans(" + n + ", " + a[0] + ", " + a[1] + ", " + a[2] + ")", x.spans(n, a[0], a[1], a[2]), -1);
            }
        }
        e.due("the last of all", x.spans(0, 1, 7, 1), 2000);
        e.due("forty weeks", x.spans(40, 1, 7, 0), 0);
    }

    private void spansWithoutWeathers() {
        e.promise(21, "and as for order() (n 0 goes without WEATHERS)");
        WoodStack x = Edges.full(2);
        e.due("n 0", x.spans(0, 0, 0, 1), 2000);
        e.due("n 1", x.spans(1, 0, 0, 1), -1);
        e.due("n 40", x.spans(40, 0, 0, 1), -1);
        e.due("n 0 of no split", new WoodStack(2).spans(0, 0, 0, 1), -1);
    }

    private void spansBeyond399() {
        e.promise(21, "and as for order()");
        WoodStack x = Edges.atWeek(359);
        e.due("forty weeks in 359", x.spans(40, 0, 0, 0), 0);
        x.week(0);
        e.due("forty weeks in 360", x.spans(40, 0, 0, 0), -1);
        e.due("39 weeks in 360", x.spans(39, 0, 0, 0), 0);
        e.due("n 0 in 360", x.spans(0, 0, 0, 1), 2000);
    }

    private void spansTurnedRound() {
        e.promise(21, "the lesser and the greater WATER of a SPLIT then");
        WoodStack x = Check.ruled(2, "dry water*2-2000;");
        x.weather(0, 0, 0, 0);
        x.lay(0, 0, 1, 1);
        e.due("lesser", x.spans(1, 0, 0, 0), 0);
        e.due("greater", x.spans(1, 0, 0, 1), 2000);
        x.measure(0, 0, 500, 600);
        e.due("lesser, measured", x.spans(1, 0, 0, 0), 1400);
        e.due("greater, measured", x.spans(1, 0, 0, 1), 1500);
        x.measure(0, 0, 700, 700);
        e.due("a point, lesser", x.spans(1, 0, 0, 0), 1300);
        e.due("a point, greater", x.spans(1, 0, 0, 1), 1300);
    }

    private void spansOfAFallenStack() {
        e.promise(21, "TRIED with all SPLITS at LOW (MEASURED, else SPAN of its KIND), and all at HIGH");
        WoodStack x = Edges.fallen(2);
        e.due("four beside", x.spans(1, 0, 0, 1), 2000);
        x.span(0, 1000, 1000);
        e.due("wetter", x.spans(1, 0, 0, 0), 1050);
        x.measure(0, 0, 0, 0);
        e.due("measured goes ahead of the span", x.spans(1, 0, 0, 1), 0);
        x.measure(0, 0, -1, 0);
        e.due("not measured any more", x.spans(1, 0, 0, 1), 1050);
    }

    private void sureOutside() {
        e.promise(22, "NONE for others");
        WoodStack x = Edges.full(2);
        x.weather(0, 0, 0, 0);
        for (int n : new int[] {Edges.LEAST, -1, 41, 42, Edges.MOST}) {
            for (int what = 0; what <= 2; what++) {
                e.due("sure(" + n + ", " + what + ")", x.sure(n, what), -1);
            }
        }
        for (int what : new int[] {Edges.LEAST, -1, 3, 4, Edges.MOST}) {
            e.due("sure(0, " + what + ")", x.sure(0, what), -1);
        }
        e.due("forty weeks", x.sure(40, 1), 16);
    }

    private void sureOfNone() {
        e.promise(22, "0 SURE, 1 MAY BE, 2 the NEXT to measure");
        WoodStack x = new WoodStack(2);
        e.due("sure(0, 0)", x.sure(0, 0), 0);
        e.due("sure(0, 1)", x.sure(0, 1), 0);
        e.due("sure(0, 2)", x.sure(0, 2), -1);
    }

    private void sureUpTo200() {
        e.promise(22, "SURE: how many are DRY by both, MAY BE: by one at least.");
        int[][] rows = {{0, 200, 1, 1}, {0, 201, 0, 1}, {200, 200, 1, 1}, {200, 201, 0, 1}, {201, 201, 0, 0}, {201, 2000, 0, 0}};
        for (int[] row : rows) {
            WoodStack x = new WoodStack(2);
            x.lay(0, 0, 1, 1000);
            x.span(0, row[0], row[1]);
            e.due("sure of " + row[0] + " .. " + row[1], x.sure(0, 0), row[2]);
            e.due("may be of " + row[0] + " .. " + row[1], x.sure(0, 1), row[3]);
            x.span(0, 0, 2000);
            x.measure(0, 0, row[0], row[1]);
            e.due("sure, measured, of " + row[0] + " .. " + row[1], x.sure(0, 0), row[2]);
            e.due("may be, measured, of " + row[0] + " .. " + row[1], x.sure(0, 1), row[3]);
        }
    }

    private void nextOfNone() {
        e.promise(22, "none, if none is above 0");
        WoodStack x = new WoodStack(2);
        x.lay(0, 0, 1, 1);
        x.span(0, 500, 500);
        e.due("a span of 0", x.sure(0, 2), -1);
        x.span(0, 500, 501);
        e.due("a span of 1", x.sure(0, 2), 0);
        x.measure(0, 0, 0, 2000);
        e.due("measured", x.sure(0, 2), -1);
        WoodStack y = Check.ruled(2, "dry 2000;");
        y.weather(0, 0, 0, 0);
        y.lay(0, 0, 1, 1);
        e.due("now", y.sure(0, 2), 0);
        e.due("both are 0 then", y.sure(1, 2), -1);
    }

    private void nextOfLikeOnes() {
        e.promise(22, "of like ones the lowest COLUMN, then z");
        WoodStack x = new WoodStack(3);
        for (int i = 0; i < 6; i++) {
            x.lay(i % 3, 0, 1, 1);
        }
        int[] want = {0, 1, 10, 11, 20, 21, -1};
        for (int place : want) {
            e.due("the next", x.sure(0, 2), place);
            if (place >= 0) {
                x.measure(place / 10, place % 10, 0, 2000);
            }
        }
        WoodStack low = new WoodStack(3);
        low.lay(0, 0, 1, 1);
        low.lay(2, 1, 1, 1);
        low.span(0, 0, 1999);
        e.due("the greatest, in the last column", low.sure(0, 2), 20);
        low.span(1, 1, 2000);
        e.due("like ones", low.sure(0, 2), 0);
    }

    private void nextOfAFullStack() {
        e.promise(22, "(10 * column + z; NONE: none)");
        WoodStack x = Edges.full(6);
        for (int i = 0; i < 47; i++) {
            x.measure(i / 8, i % 8, 0, 0);
        }
        e.due("the last place of all", x.sure(0, 2), 57);
    }

    private void sureWithoutWeathers() {
        e.promise(22, "as for spans()");
        WoodStack x = Edges.full(2);
        for (int what = 0; what <= 2; what++) {
            e.due("n 0, what " + what, x.sure(0, what), what == 1 ? 16 : 0);
            e.due("n 1, what " + what, x.sure(1, what), -1);
        }
        WoodStack late = Edges.atWeek(359);
        e.due("forty weeks in 359", late.sure(40, 1), 2);
        late.week(0);
        e.due("forty weeks in 360", late.sure(40, 1), -1);
        e.due("39 weeks in 360", late.sure(39, 1), 2);
        e.due("n 0 in 360", late.sure(0, 1), 2);
    }

    private void smallOutside() {
        e.promise(23, "NONE: none, and for others");
        WoodStack x = Edges.atWeek(0);
        int[][] wrong = {{-1, 0, 0}, {4, 0, 0}, {0, -1, 0}, {0, 2001, 0}, {0, 0, -1}, {0, 0, 41}, {Edges.MOST, 0, 0}, {0, 0, Edges.MOST},
            {Edges.LEAST, 0, 0}, {0, Edges.LEAST, 0}, {0, 0, Edges.LEAST}, {0, Edges.MOST, 0}};
        for (int[] a : wrong) {
            e.due("small(" + a[0] + ", " + a[1] + ", " + a[2] + ")", x.small(a[0], a[1], a[2]), -1);
        }
        e.due("the least", x.small(0, 0, 0), 20);
        e.due("the last kind", x.small(3, 0, 0), 20);
        e.due("forty weeks", x.small(0, 200, 40), 20);
    }

    private void smallOfNone() {
        e.promise(23, "SMALL: the greatest SIZE (1 .. 20)");
        WoodStack x = Check.ruled(2, "dry 1000-size*50;");
        x.weather(0, 0, 0, 0);
        int[][] rows = {{200, 20}, {201, 19}, {250, 19}, {251, 18}, {1100, 2}, {1101, 1}, {1150, 1}, {1151, -1}, {2000, -1}};
        for (int[] row : rows) {
            e.due("water " + row[0], x.small(0, row[0], 1), row[1]);
        }
        WoodStack up = Check.ruled(2, "dry size*50;");
        up.weather(0, 0, 0, 0);
        e.due("the great ones dry best", up.small(0, 1200, 1), 20);
        WoodStack middle = Check.ruled(2, "dry 500-(size-7)*(size-7)*100;");
        middle.weather(0, 0, 0, 0);
        e.due("one in the middle", middle.small(0, 700, 1), 7);
    }

    private void smallUpTo200() {
        e.promise(23, "is DRY behind n weeks (0 .. 40) of PLAN; none.");
        WoodStack x = Check.ruled(2, "dry 45;");
        x.weather(0, 0, 0, 0);
        e.due("200 now", x.small(0, 200, 0), 20);
        e.due("201 now", x.small(0, 201, 0), -1);
        e.due("2000 behind forty", x.small(0, 2000, 40), 20);
        e.due("2000 behind 39", x.small(0, 2000, 39), -1);
    }

    private void smallWithoutWeathers() {
        e.promise(23, "as for spans()");
        WoodStack x = new WoodStack(2);
        e.due("n 0", x.small(0, 200, 0), 20);
        e.due("n 1", x.small(0, 200, 1), -1);
        WoodStack late = Edges.atWeek(359);
        e.due("forty weeks in 359", late.small(0, 200, 40), 20);
        late.week(0);
        e.due("forty weeks in 360", late.small(0, 200, 40), -1);
        e.due("39 weeks in 360", late.small(0, 200, 39), 20);
        e.due("n 0 in 360", late.small(0, 200, 0), 20);
    }

    private void smallBesideAFullStack() {
        e.promise(23, "that lies alone (COLUMN 0 of THE STACK as if it had no other, BARK up, never FALLEN)");
        WoodStack x = Edges.full(2);
        x.weather(0, 0, 0, 0);
        x.by(Check.read(x, "stand 0;dry 100*top-100*beside-100*high+10*bark+sunny;"));
        e.due("alone, in the sun", x.small(0, 311, 1), 20);
        e.due("one more", x.small(0, 312, 1), -1);
        e.due("it never falls", x.small(0, 200 + 4 * 111, 4), 20);
        x.ends(0, false, 1);
        e.due("in the shade", x.small(0, 310, 1), 20);
        e.due("in the shade, one more", x.small(0, 311, 1), -1);
        x.take(1);
        x.week(0);
        e.due("fallen", x.stack(2), 1);
        e.due("that one isn't", x.small(0, 310, 1), 20);
        e.due("fifteen lie as they lay", x.stack(3), 15);
        e.due("still fallen", x.stack(2), 1);
    }
}
