/** Boundary cases of promises 19, 20 and 27: orders, ways and falls that are tried. */
final class TriedEdges {
    private final Edges e;

    TriedEdges(Edges e) {
        this.e = e;
    }

    void all() {
        orderOutside();
        orderOfNone();
        orderEndsEarlier();
        orderOfLikeOnes();
        orderOfAFallenStack();
        orderOfAFullStack();
        orderWithoutWeathers();
        orderBeyond399();
        wayOutside();
        wayStandsNever();
        wayFallsInTheLastWeek();
        wayOfLikeOnes();
        wayOfNone();
        wayWithoutWeathers();
        wayBeyond399();
        fallsOutside();
        seedsBeyond9999();
        drawsWrapAround();
        fallsOfAFallenStack();
        fallsWithoutWeathers();
        fallsBeyond399();
        triedChangesNothing();
    }

    private void orderOutside() {
        e.promise(19, "for others, without WEATHERS");
        WoodStack x = Edges.full(6);
        x.weather(0, 0, 0, 0);
        for (int n : new int[] {Edges.LEAST, -1, 0, 6, 7, 256 + 1, Edges.MOST}) {
            e.due("order(" + n + ", 0)", x.order(n, 0), -1);
            e.due("order(" + n + ", 10)", x.order(n, 10), -1);
        }
        for (int what : new int[] {Edges.LEAST, -1, 1, 2, 9, 15, 16, 20, Edges.MOST}) {
            e.due("order(5, " + what + ")", x.order(5, what), -1);
        }
        e.due("one", x.order(1, 0), 200);
        e.due("the first of one", x.order(1, 10), 0);
        e.due("five, the last", x.order(5, 14) >= 0, true);
    }

    private void orderOfNone() {
        e.promise(19, "(If there are none at all: 0.)");
        WoodStack x = new WoodStack(3);
        x.weather(0, 0, 0, 0);
        for (int n = 1; n <= 5; n++) {
            e.due("order(" + n + ", 0)", x.order(n, 0), 0);
            e.due("order(" + n + ", 10)", x.order(n, 10), -1);
        }
        WoodStack fallen = Edges.fallen(2);
        fallen.take(2);
        e.due("fallen, all taken", fallen.order(3, 0), 0);
        e.due("fallen, all taken, the first", fallen.order(3, 10), -1);
    }

    private void orderEndsEarlier() {
        e.promise(19, "If all are TAKEN earlier, it ends there.");
        WoodStack x = Check.ruled(2, "dry 0;heat 10;");
        x.weather(0, 0, 0, 0);
        x.lay(1, 0, 1, 1);
        x.lay(1, 0, 1, 1);
        for (int n = 1; n <= 5; n++) {
            e.due("order(" + n + ", 0)", x.order(n, 0), 10 * Math.min(2, n));
            for (int k = 0; k < 5; k++) {
                e.due("order(" + n + ", " + (10 + k) + ")", x.order(n, 10 + k), k < Math.min(2, n) ? 1 : -1);
            }
        }
        e.promise(19, "NONE: none is TAKEN then");
        e.due("the third of two", x.order(5, 12), -1);
        x.by(Check.read(x, "heat 0;"));
        e.due("two that warm nothing", x.order(5, 0), 0);
        e.due("are taken though", x.order(5, 11), 1);
        e.due("two alone", x.order(5, 12), -1);
    }

    private void orderOfLikeOnes() {
        e.promise(19, "of like ones the lowest first one, then the second, ..");
        WoodStack x = Check.ruled(6, "dry 0;heat 7;");
        x.weather(0, 0, 0, 0);
        for (int i = 0; i < 12; i++) {
            x.lay(i % 6, 0, 1, 1);
        }
        int[] want = {0, 0, 1, 1, 2};
        for (int k = 0; k < 5; k++) {
            e.due("order(5, " + (10 + k) + ")", x.order(5, 10 + k), want[k]);
        }
        WoodStack late = Check.ruled(3, "dry 0;heat size*(week+1);");
        late.weather(0, 0, 0, 0);
        late.lay(0, 0, 1, 1);
        late.lay(1, 0, 2, 1);
        late.lay(2, 0, 2, 1);
        e.due("the most", late.order(2, 0), 2 + 4);
        e.due("first", late.order(2, 10), 1);
        e.due("second", late.order(2, 11), 2);
    }

    private void orderOfAFallenStack() {
        e.promise(19, "if FALLEN: of a COLUMN, its highest");
        WoodStack x = Check.ruled(2, "stand 0;dry 0;heat water;");
        x.weather(0, 0, 0, 0);
        x.lay(1, 0, 1, 900);
        x.lay(1, 0, 1, 800);
        x.lay(1, 0, 1, 7);
        x.week(0);
        e.due("fallen", x.stack(2), 1);
        e.due("not one below", x.order(1, 0), 7);
        e.due("two", x.order(2, 0), 807);
    }

    private void orderOfAFullStack() {
        e.promise(19, "ORDER for n weeks (1 .. 5)");
        WoodStack x = Check.ruled(6, "dry 0;heat size;stand 9999;");
        x.weather(0, 0, 0, 0);
        for (int i = 0; i < 48; i++) {
            // The greatest lie low in the last column.
            x.lay(i % 6, 0, i % 6 == 5 ? 20 - i / 6 : 1, 1);
        }
        e.due("five", x.order(5, 0), 13 + 14 + 15 + 16 + 17);
        for (int k = 0; k < 5; k++) {
            e.due("the column of " + k, x.order(5, 10 + k), 5);
        }
    }

    private void orderWithoutWeathers() {
        e.promise(19, "without WEATHERS");
        WoodStack x = Edges.full(2);
        e.due("order(1, 0)", x.order(1, 0), -1);
        e.due("order(1, 10)", x.order(1, 10), -1);
        e.due("of none", new WoodStack(2).order(1, 0), -1);
        x.weather(0, 0, 0, 0);
        e.due("with one", x.order(1, 0), 200);
        x.back();
        e.due("gone back", x.order(1, 0), -1);
    }

    private void orderBeyond399() {
        e.promise(19, "if THE WEEK would go beyond 399");
        WoodStack x = Edges.atWeek(394);
        for (int week = 394; week <= 399; week++) {
            for (int n = 1; n <= 5; n++) {
                e.due("order(" + n + ", 0) in " + week, x.order(n, 0) >= 0, week + n <= 399);
            }
            x.week(0);
        }
    }

    private void wayOutside() {
        e.promise(20, "NONE for others");
        WoodStack x = Edges.atWeek(0);
        for (int n : new int[] {Edges.LEAST, -1, 0, 41, 42, Edges.MOST}) {
            e.due("way(" + n + ", 0, 0)", x.way(n, 0, 0), -1);
            e.due("way(" + n + ", -1, 1)", x.way(n, -1, 1), -1);
        }
        for (int way : new int[] {Edges.LEAST, -2, 8, 9, Edges.MOST}) {
            e.due("way(1, " + way + ", 0)", x.way(1, way, 0), -1);
        }
        for (int what : new int[] {Edges.LEAST, -1, 2, 3, Edges.MOST}) {
            e.due("way(1, 0, " + what + ")", x.way(1, 0, what), -1);
            e.due("way(1, 7, " + what + ")", x.way(1, 7, what), -1);
        }
        for (int what : new int[] {Edges.LEAST, -1, 3, 4, Edges.MOST}) {
            e.due("way(1, -1, " + what + ")", x.way(1, -1, what), -1);
        }
        e.due("one week", x.way(1, 0, 1), 2);
        e.due("forty weeks", x.way(40, 7, 1), 41);
    }

    private void wayStandsNever() {
        e.promise(20, "(n + 1, if it isn't then; 0 if it is now)");
        WoodStack x = new WoodStack(2);
        x.weather(0, 0, 0, 0);
        e.due("none does not fall", x.way(40, 0, 1), 41);
        e.due("none dries", x.way(40, 0, 0), 0);
        WoodStack fallen = Edges.fallen(2);
        for (int way = 0; way < 8; way++) {
            e.due("fallen now, way " + way, fallen.way(5, way, 1), 0);
        }
        e.due("fallen now, the best to stand", fallen.way(5, -1, 1), 0);
    }

    private void wayFallsInTheLastWeek() {
        e.promise(20, "behind how many weeks it was FALLEN first");
        WoodStack x = Check.ruled(2, "dry 0;thick 100;stand 120-week*5;");
        x.weather(0, 0, 0, 0);
        x.lay(0, 0, 1, 1);
        e.due("four weeks", x.way(4, 0, 1), 5);
        e.due("five weeks", x.way(5, 0, 1), 5);
        e.due("six weeks", x.way(6, 0, 1), 5);
        e.due("forty weeks", x.way(40, 0, 1), 5);
        e.due("three weeks", x.way(3, 0, 1), 4);
        x.week(0);
        e.due("a week on", x.way(40, 0, 1), 4);
    }

    private void wayOfLikeOnes() {
        e.promise(20, "BEST to dry, to stand: of like ones the lowest WAY.");
        WoodStack x = Edges.atWeek(0);
        e.due("all are alike to dry", x.way(1, -1, 0), 0);
        e.due("all are alike to stand", x.way(1, -1, 1), 0);
        e.due("both", x.way(1, -1, 2), 0);
        WoodStack last = Check.ruled(2, "dry 400*sunny-400*bark;thick 100;stand crossed*100;");
        last.weather(0, 0, 0, 0);
        last.lay(1, 0, 1, 500);
        e.due("dries by 5 and 7", last.way(1, -1, 0), 5);
        e.due("stands by 2, 3, 6, 7", last.way(1, -1, 1), 2);
        e.due("both by 7 alone", last.way(1, -1, 2), 7);
        e.due("way 7 dries", last.way(1, 7, 0), 1);
        e.due("way 6 does not", last.way(1, 6, 0), 0);
        e.due("way 7 stands", last.way(1, 7, 1), 2);
    }

    private void wayOfNone() {
        e.promise(20, "2 BOTH (NONE: none)");
        WoodStack x = Check.ruled(2, "dry beside*100;thick 100;stand crossed*100;");
        x.weather(0, 0, 0, 0);
        x.lay(0, 0, 1, 600);
        e.due("it dries best when fallen", x.way(2, -1, 0), 0);
        e.due("it stands best crossed", x.way(2, -1, 1), 2);
        e.due("none is best in both", x.way(2, -1, 2), -1);
    }

    private void wayWithoutWeathers() {
        e.promise(20, "and as for order()");
        WoodStack x = Edges.full(2);
        for (int way = -1; way < 8; way++) {
            e.due("way(1, " + way + ", 1)", x.way(1, way, 1), -1);
        }
    }

    private void wayBeyond399() {
        e.promise(20, "and as for order()");
        WoodStack x = Edges.atWeek(359);
        e.due("forty weeks in 359", x.way(40, 0, 1), 41);
        x.week(0);
        e.due("forty weeks in 360", x.way(40, 0, 1), -1);
        e.due("39 weeks in 360", x.way(39, 0, 1), 40);
        e.due("forty weeks in 360, all", x.way(40, -1, 1), -1);
        e.due("39 weeks in 360, all", x.way(39, -1, 1), 0);
    }

    private void fallsOutside() {
        e.promise(27, "so many (1 .. 20), n weeks (1 .. 40)");
        WoodStack x = Edges.fallen(1);
        for (int count : new int[] {Edges.LEAST, -1, 0, 21, 22, Edges.MOST}) {
            e.due("falls(0, " + count + ", 1)", x.falls(0, count, 1), -1);
        }
        for (int n : new int[] {Edges.LEAST, -1, 0, 41, 42, Edges.MOST}) {
            e.due("falls(0, 1, " + n + ")", x.falls(0, 1, n), -1);
        }
        e.due("the fewest", x.falls(0, 1, 1), 1);
        e.due("the most", x.falls(0, 20, 40), 20);
    }

    private void seedsBeyond9999() {
        e.promise(27, "(SEEDS 0 .. 9999)");
        WoodStack x = Edges.fallen(1);
        for (int seed : new int[] {Edges.LEAST, -20, -1, 10000, 10001, Edges.MOST - 1, Edges.MOST}) {
            e.due("falls(" + seed + ", 1, 1)", x.falls(seed, 1, 1), -1);
            e.due("falls(" + seed + ", 20, 1)", x.falls(seed, 20, 1), -1);
        }
        e.due("the first", x.falls(0, 1, 1), 1);
        e.due("the last", x.falls(9999, 1, 1), 1);
        e.due("one behind the last", x.falls(9999, 2, 1), -1);
        e.due("twenty up to the last", x.falls(9980, 20, 1), 20);
        e.due("twenty beyond the last", x.falls(9981, 20, 1), -1);
    }

    private void drawsWrapAround() {
        e.promise(27, "X being (X * 163 + 31) mod 30097 then");
        // The last of the weathers fells it; which week draws it first is reckoned here.
        for (int weathers : new int[] {1, 2, 7, 12}) {
            WoodStack x = Check.ruled(2, "dry wind*1000;thick water;stand 9;");
            for (int i = 0; i < weathers; i++) {
                x.weather(i == weathers - 1 ? 9 : 0, 0, 0, 0);
            }
            x.lay(0, 0, 1, 9);
            x.by(Check.read(x, "dry -wind*10;thick water;stand 9;"));
            for (int seed : new int[] {0, 1, 184, 185, 4299, 4300, 9998, 9999}) {
                long draw = seed * 7L + 4;
                int first = 0;
                while (first < 40 && draw % weathers != weathers - 1) {
                    draw = (draw * 163 + 31) % 30097;
                    first++;
                }
                for (int n : new int[] {Math.max(1, first), Math.min(40, first + 1)}) {
                    e.due("seed " + seed + " of " + weathers + " in " + n, x.falls(seed, 1, n), first < n ? 1 : 0);
                }
            }
        }
    }

    private void fallsOfAFallenStack() {
        e.promise(27, "by how many it is FALLEN behind them");
        WoodStack x = Edges.fallen(2);
        e.due("fallen now", x.falls(5, 13, 2), 13);
        x.take(2);
        e.due("fallen now, all taken", x.falls(5, 13, 2), 13);
        WoodStack none = new WoodStack(2);
        none.weather(0, 0, 0, 0);
        e.due("none does not fall", none.falls(0, 20, 40), 0);
    }

    private void fallsWithoutWeathers() {
        e.promise(27, "and as for order()");
        WoodStack x = Edges.full(2);
        e.due("falls(0, 1, 1)", x.falls(0, 1, 1), -1);
        x.weather(0, 0, 0, 0);
        e.due("with one", x.falls(0, 1, 1), 0);
    }

    private void fallsBeyond399() {
        e.promise(27, "and as for order()");
        WoodStack x = Edges.atWeek(359);
        e.due("forty weeks in 359", x.falls(0, 1, 40), 0);
        x.week(0);
        e.due("forty weeks in 360", x.falls(0, 1, 40), -1);
        e.due("39 weeks in 360", x.falls(0, 1, 39), 0);
    }

    private void triedChangesNothing() {
        e.promise(20, "What is TRIED below changes nothing; weeks of it go by PLAN from the first on");
        WoodStack x = Edges.atWeek(2);
        x.weather(9, 9, 9, 0);
        x.plan(0, 1);
        int water = x.of(0, 0, 2);
        e.due("by the first of PLAN", x.spans(1, 0, 0, 1), 2000 - 2000 * 19 / 40);
        x.way(40, -1, 2);
        x.order(2, 0);
        x.falls(0, 20, 40);
        x.sure(40, 2);
        x.small(0, 2000, 40);
        e.due("the week", x.about(1), 2);
        e.due("its water", x.of(0, 0, 2), water);
        e.due("not fallen", x.stack(2), -1);
        e.promise(20, "(those of WEEKS told by hand: the clock goes on, PLAN stays)");
        x.week(0);
        e.due("PLAN stays", x.about(10), 1);
        e.due("the clock goes on", x.about(1), 3);
        e.due("by the first of PLAN again", x.spans(1, 0, 0, 1), 2000 - 2000 * 19 / 40);
    }
}
