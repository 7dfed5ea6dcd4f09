/** Boundary cases of promises 15 to 17: what is told of splits and of the stack, and the weeks that go by. */
final class WeekEdges {
    private final Edges e;

    WeekEdges(Edges e) {
        this.e = e;
    }

    void all() {
        ofOutside();
        notMeasured();
        thickBelow300();
        thickAtLeastAndMost();
        heatAtLeastAndMost();
        dryUpTo200();
        stackOutside();
        standWithout();
        standAtLeastAndMost();
        airWithoutSplits();
        airOfFullColumns();
        beetlesOfNone();
        likeSums();
        namesOfASplit();
        namesOfStand();
        besideInAFullStack();
        weekOutside();
        withoutWeathers();
        behind399();
        waterByTheText();
        waterWithoutAText();
        cutTowards0();
        rainOnTop();
        leanAsStand();
        leanOfTheOutermost();
        cantFallAgain();
        whileFallen();
        emptyStack();
    }

    private void ofOutside() {
        e.promise(15, "NONE for others.");
        WoodStack x = Edges.full(3);
        int[][] wrong = {{-1, 0, 2}, {3, 0, 2}, {0, -1, 2}, {0, 8, 2}, {2, 8, 2}, {0, 0, -1}, {0, 0, 9}, {0, 0, 10}, {0, 0, Edges.MOST},
            {0, 0, Edges.LEAST}, {Edges.MOST, 0, 2}, {0, Edges.MOST, 2}, {Edges.LEAST, 0, 2}, {0, Edges.LEAST, 2}};
        for (int[] a : wrong) {
            e.due("of(" + a[0] + ", " + a[1] + ", " + a[2] + ")", x.of(a[0], a[1], a[2]), -1);
        }
        e.due("the last of all", x.of(2, 7, 2), 500);
        x.take(1);
        e.due("one that was taken", x.of(0, 7, 2), -1);
        e.due("the one below it", x.of(0, 6, 2), 500);
    }

    private void notMeasured() {
        e.promise(15, "(NONE: not MEASURED)");
        WoodStack x = Edges.full(2);
        e.due("low", x.of(1, 7, 4), -1);
        e.due("high", x.of(1, 7, 5), -1);
        x.measure(1, 7, 0, 0);
        e.due("low, measured", x.of(1, 7, 4), 0);
        e.due("high, measured", x.of(1, 7, 5), 0);
        e.due("the one below it", x.of(1, 6, 5), -1);
    }

    private void thickBelow300() {
        e.promise(15, "less SIZE * (300 - WATER) / 100, cut, if WATER is below 300");
        int[][] rows = {{20, 300, 200}, {20, 299, 200}, {20, 296, 200}, {20, 295, 199}, {1, 300, 10}, {1, 201, 10}, {1, 200, 9}, {1, 0, 7},
            {20, 0, 140}, {20, 2000, 200}, {3, 267, 30}, {3, 266, 29}};
        for (int[] row : rows) {
            WoodStack x = new WoodStack(2);
            x.lay(0, 0, row[0], row[1]);
            e.due("size " + row[0] + ", water " + row[1], x.of(0, 0, 6), row[2]);
        }
    }

    private void thickAtLeastAndMost() {
        e.promise(15, "thick (1 at least, 999 at most;");
        int[][] rows = {{0, 1}, {1, 1}, {2, 2}, {998, 998}, {999, 999}, {1000, 999}, {2000, 999}};
        for (int[] row : rows) {
            WoodStack x = Check.ruled(2, "thick water;");
            x.lay(1, 0, 1, row[0]);
            e.due("thick " + row[0], x.of(1, 0, 6), row[1]);
            e.due("its height", x.stack(11), row[1]);
        }
        WoodStack x = Check.ruled(2, "thick -9999*9999;");
        x.lay(1, 0, 1, 1);
        e.due("far below", x.of(1, 0, 6), 1);
    }

    private void heatAtLeastAndMost() {
        e.promise(15, "heat (0 at least, 9999 at most;");
        String[] sums = {"-1", "0", "1", "9998", "9999", "9999+1", "9999*9999", "-9999*9999"};
        int[] want = {0, 0, 1, 9998, 9999, 9999, 9999, 0};
        for (int i = 0; i < sums.length; i++) {
            WoodStack x = Check.ruled(2, "heat " + sums[i] + ";");
            x.lay(1, 0, 1, 1);
            e.due("heat " + sums[i], x.of(1, 0, 7), want[i]);
            e.due("taken", x.take(1), want[i]);
        }
        e.promise(15, "without SIZE * (2500 - WATER) / 100, cut");
        int[][] rows = {{1, 2000, 5}, {1, 2401 - 500, 5}, {1, 1900, 6}, {1, 0, 25}, {20, 0, 500}, {20, 2000, 100}, {1, 1, 24}, {3, 34, 73}};
        for (int[] row : rows) {
            WoodStack x = new WoodStack(2);
            x.lay(0, 0, row[0], row[1]);
            e.due("size " + row[0] + ", water " + row[1], x.of(0, 0, 7), row[2]);
        }
    }

    private void dryUpTo200() {
        e.promise(15, "DRY: WATER is 200 or less.");
        WoodStack x = new WoodStack(2);
        int[] waters = {0, 199, 200, 201, 2000};
        for (int z = 0; z < waters.length; z++) {
            x.lay(0, 0, 1, waters[z]);
            e.due("water " + waters[z], x.of(0, z, 8), waters[z] <= 200 ? 1 : 0);
        }
        e.due("of all", x.stack(4), 3);
    }

    private void stackOutside() {
        e.promise(16, "-100000 for others.");
        for (int w = 2; w <= 6; w++) {
            WoodStack x = Edges.full(w);
            for (int what : new int[] {Edges.LEAST, -1, 7, 8, 9, 10 + w, 16, 19, 20 + w, 26, 30, 100, Edges.MOST}) {
                e.due("stack(" + what + ") of " + w, x.stack(what), -100000);
            }
            e.due("the first height of " + w, x.stack(10), 800);
            e.due("the last height of " + w, x.stack(9 + w), 800);
            e.due("the first count of " + w, x.stack(20), 8);
            e.due("the last count of " + w, x.stack(19 + w), 8);
            e.due("not fallen", x.stack(2), -1);
            e.due("all of " + w, x.stack(3), 8 * w);
        }
    }

    private void standWithout() {
        e.promise(16, "without 10 W + 20 POSTS, and 15 more if CROSSED");
        WoodStack x = new WoodStack(6);
        e.due("at first", x.stack(1), 60);
        x.ends(9, true, 0);
        e.due("the most", x.stack(1), 60 + 180 + 15);
        WoodStack y = new WoodStack(2);
        y.ends(0, true, 1);
        e.due("crossed alone", y.stack(1), 35);
    }

    private void standAtLeastAndMost() {
        e.promise(16, "STAND: stand (0 at least, 9999 at most;");
        String[] sums = {"-1", "0", "1", "9998", "9999", "9999+1", "9999*9999", "-9999*9999"};
        int[] want = {0, 0, 1, 9998, 9999, 9999, 9999, 0};
        for (int i = 0; i < sums.length; i++) {
            e.due("stand " + sums[i], Check.ruled(2, "stand " + sums[i] + ";").stack(1), want[i]);
        }
    }

    private void airWithoutSplits() {
        e.promise(16, "(0 without SPLITS)");
        for (int w = 2; w <= 6; w++) {
            WoodStack x = new WoodStack(w);
            e.due("at first", x.stack(5), 0);
            x.lay(w - 1, 0, 1, 0);
            e.due("with one", x.stack(5), 215);
            x.take(1);
            e.due("when it is taken", x.stack(5), 0);
        }
    }

    private void airOfFullColumns() {
        e.promise(16, "the widest THICK of each COLUMN that has SPLITS, together, times the greatest HEIGHT: a box;");
        WoodStack x = Check.ruled(6, "thick 999;");
        for (int i = 0; i < 48; i++) {
            x.lay(i % 6, 0, 1, 1);
        }
        e.due("all places hold the thickest", x.stack(5), 215);
        e.due("the greatest height", x.stack(15), 8 * 999);
        WoodStack y = Check.ruled(6, "thick 1;");
        y.lay(3, 0, 1, 1);
        e.due("one of the thinnest", y.stack(5), 215);
        WoodStack z = Check.ruled(2, "thick water;");
        z.lay(0, 0, 1, 999);
        z.lay(1, 0, 1, 1);
        long box = 1000L * 999;
        e.due("cut", z.stack(5), 1000 - 785 * (999L * 999 + 1) / box);
    }

    private void beetlesOfNone() {
        e.promise(16, "BEETLES: how many SPLITS a beetle clause is so for.");
        WoodStack x = Edges.full(6);
        e.due("no text rules", x.stack(6), 0);
        x.by(Check.read(x, "heat 1;"));
        e.due("a text without beetles", x.stack(6), 0);
        x.by(Check.read(x, "beetle 1=1;beetle 2=2;"));
        e.due("each split once", x.stack(6), 48);
        x.take(48);
        e.due("no splits", x.stack(6), 0);
    }

    private void likeSums() {
        e.promise(16, "ASK: not ASK, or SUM one of < <= > >= = # (unlike) SUM.");
        String[] signs = {"<", "<=", ">", ">=", "=", "#"};
        String[] so = {"100", "110", "001", "011", "010", "101"};
        for (int i = 0; i < signs.length; i++) {
            for (int less = -1; less <= 1; less++) {
                int want = so[i].charAt(less + 1) - '0';
                String ask = (500 + less) + signs[i] + "water";
                beetles(ask, want);
                beetles("not " + ask, 1 - want);
                beetles("not not " + ask, want);
                beetles(ask + " and 1=1", want);
                beetles("1=1 and " + ask, want);
                beetles(ask + " or 1=2", want);
                beetles("1=2 or " + ask, want);
            }
        }
        beetles("1=1 or 1=1 and 1=2", 1);
        beetles("1=2 and 1=1 or 1=1", 1);
        beetles("not 1=2 and 1=2", 0);
        beetles("-1000*1000=-9999*9999", 1);
    }

    /** How many of one split of size 10 and water 500 have beetles. */
    private void beetles(String ask, int want) {
        WoodStack x = Check.ruled(2, "beetle " + ask + ";");
        x.lay(0, 0, 10, 500);
        e.due(ask, x.stack(6), want);
    }

    private void namesOfASplit() {
        e.promise(15, "water size kind bark (1, 0) high (its z) top (1: none lies on it) beside");
        int[][] splits = {{0, 1, 0}, {3, 20, 2000}, {1, 2, 1}, {2, 19, 1999}, {0, 1, 0}, {0, 1, 0}, {0, 1, 0}, {3, 20, 2000}};
        String[] names = {"kind", "size", "water", "bark", "high", "top", "beside", "sunny", "week"};
        for (int i = 0; i < names.length; i++) {
            WoodStack x = Check.ruled(2, "heat 5000+" + names[i] + ";");
            for (int[] split : splits) {
                x.lay(1, split[0], split[1], split[2]);
            }
            x.bark(1, 7, false);
            for (int z = 0; z < 8; z++) {
                int[] want = {splits[z][0], splits[z][1], splits[z][2], z == 7 ? 0 : 1, z, z == 7 ? 1 : 0, z == 0 || z == 7 ? 1 : 2, 0, 0};
                e.due(names[i] + " of " + z, x.of(1, z, 7), 5000 + want[i]);
            }
        }
        WoodStack late = Edges.atWeek(399);
        late.by(Check.read(late, "heat week;stand week;"));
        e.due("the last week", late.of(0, 0, 7), 399);
        e.due("the last week of stand", late.stack(1), 399);
    }

    private void namesOfStand() {
        e.promise(16, "of stand: wide (W), tall (the most SPLITS of a COLUMN), posts, crossed (1, 0), week");
        for (int w = 2; w <= 6; w++) {
            WoodStack x = Check.ruled(w, "stand wide*1000+tall*100+posts*10+crossed;");
            e.due("without splits, of " + w, x.stack(1), w * 1000);
            x.ends(9, true, 0);
            for (int z = 0; z < 8; z++) {
                x.lay(z % 2 == 0 ? 0 : w - 1, 0, 1, 1);
                x.lay(w / 2, 0, 1, 1);
            }
            e.due("a full column, of " + w, x.stack(1), w * 1000 + 800 + 91);
            x.take(x.stack(3));
            e.due("all taken, of " + w, x.stack(1), w * 1000 + 91);
        }
    }

    private void besideInAFullStack() {
        e.promise(16, "how many of the four places beside, above and below it in THE STACK hold one");
        for (int w = 2; w <= 6; w++) {
            WoodStack x = Edges.full(w);
            int[] want = {0, 0, 4, 12 + (w - 2) * 2, (w - 2) * 6};
            for (int beside = 2; beside <= 4; beside++) {
                x.by(-1);
                x.back();
                for (int i = 0; i < 8 * w; i++) {
                    x.lay(i / 8, 0, 1, 1);
                }
                x.by(Check.read(x, "beetle beside=" + beside + ";"));
                e.due(beside + " beside, in " + w + " columns", x.stack(6), want[beside]);
            }
        }
        WoodStack one = Check.ruled(6, "beetle beside=0 and top=1 and high=0;");
        one.lay(3, 0, 1, 1);
        e.due("one alone", one.stack(6), 1);
        one.lay(1, 0, 1, 1);
        one.lay(5, 0, 1, 1);
        e.due("three apart", one.stack(6), 3);
    }

    private void weekOutside() {
        e.promise(17, "NONE for others");
        WoodStack x = Edges.atWeek(0);
        for (int weather : new int[] {Edges.LEAST, -1, 1, 11, 12, Edges.MOST}) {
            e.due("week(" + weather + ")", x.week(weather), -1);
        }
        e.due("no week went by", x.about(1), 0);
        e.due("nothing dried", x.of(0, 0, 2), 400);
    }

    private void withoutWeathers() {
        e.promise(17, "Without WEATHERS no week goes by.");
        WoodStack x = new WoodStack(2);
        x.lay(0, 0, 5, 500);
        e.due("week(0)", x.week(0), -1);
        e.due("the week", x.about(1), 0);
        x.weather(0, 0, 0, 0);
        e.due("with one", x.week(0), 1);
        x.back();
        e.due("gone back", x.week(0), -1);
    }

    private void behind399() {
        e.promise(17, "and behind 399.");
        WoodStack x = Edges.atWeek(397);
        e.due("the one ahead of the last", x.week(0), 398);
        e.due("the last", x.week(0), 399);
        int water = x.of(0, 0, 2);
        e.due("one more", x.week(0), -1);
        e.due("and another", x.week(0), -1);
        e.due("it stays", x.about(1), 399);
        e.due("nothing dried", x.of(0, 0, 2), water);
        WoodStack late = Edges.atWeek(398);
        late.lay(1, 0, 20, 2000);
        e.due("the last", late.week(0), 399);
        e.due("fallen since the last", late.stack(2), 399);
    }

    private void waterByTheText() {
        e.promise(17, "WATER is dry less (0 at least, 2000 at most;");
        int[][] rows = {{500, 499, 1}, {500, 500, 0}, {500, 501, 0}, {500, 9999, 0}, {0, 1, 0}, {0, 0, 0}, {1500, -499, 1999},
            {1500, -500, 2000}, {1500, -501, 2000}, {2000, -1, 2000}, {2000, 0, 2000}, {2000, -9999, 2000}};
        for (int[] row : rows) {
            WoodStack x = Check.ruled(2, "dry 0+" + row[1] + ";");
            x.weather(0, 0, 0, 0);
            x.lay(0, 0, 1, row[0]);
            x.week(0);
            e.due("water " + row[0] + ", dry " + row[1], x.of(0, 0, 2), row[2]);
        }
    }

    private void waterWithoutAText() {
        e.promise(17, "2000 at most; without: (WATER - 10 AIR) * (2 + WIND + SUN - beside) / 40");
        WoodStack wet = Edges.fallen(1);
        wet.laid(Check.read(wet, "lay 0,10,2000 on 0;"));
        wet.week(0);
        e.due("alone it dries", wet.of(0, 0, 2), 1900);
        WoodStack fallen = new WoodStack(2);
        fallen.weather(0, 0, 9, 0);
        fallen.lay(0, 0, 10, 1999);
        fallen.lay(0, 0, 10, 1999);
        fallen.week(0);
        e.due("one beside it", fallen.of(0, 0, 2), 1999 - 49);
        e.due("fallen", fallen.stack(2), 1);
        fallen.bark(0, 0, false);
        fallen.week(0);
        e.due("four beside and rain: at most 2000", fallen.of(0, 0, 2), 2000);
        fallen.week(0);
        e.due("still 2000", fallen.of(0, 0, 2), 2000);
        WoodStack x = new WoodStack(2);
        x.weather(9, 9, 0, 40);
        x.lay(0, 0, 1, 0);
        x.week(0);
        e.due("wetter by the air", x.of(0, 0, 2), 400 * 20 / 40);
        WoodStack dry = new WoodStack(2);
        dry.weather(9, 9, 0, 0);
        dry.lay(0, 0, 1, 1);
        dry.week(0);
        e.due("the last of it stays", dry.of(0, 0, 2), 1);
        dry.laid(Check.read(dry, "lay 0,1,0 on 0;"));
        dry.week(0);
        e.due("none stays none", dry.of(0, 0, 2), 0);
    }

    private void cutTowards0() {
        e.promise(17, "cut towards 0, less");
        int[][] rows = {{419, 40, 419}, {420, 40, 419}, {381, 40, 381}, {380, 40, 381}, {439, 40, 438}, {440, 40, 438}, {361, 40, 362}, {360, 40, 362}};
        for (int[] row : rows) {
            WoodStack x = new WoodStack(2);
            x.weather(0, 0, 0, row[1]);
            x.lay(0, 0, 1, row[0]);
            x.week(0);
            e.due("water " + row[0] + ", air " + row[1], x.of(0, 0, 2), row[2]);
        }
    }

    private void rainOnTop() {
        e.promise(17, "and 10 RAIN more if it is top and not BARK up)");
        WoodStack x = new WoodStack(2);
        x.weather(0, 0, 9, 0);
        for (int i = 0; i < 4; i++) {
            x.lay(i / 2, 0, 1, 0);
        }
        x.bark(0, 0, false);
        x.bark(0, 1, false);
        x.week(0);
        e.due("below, bark down", x.of(0, 0, 2), 0);
        e.due("top, bark down", x.of(0, 1, 2), 90);
        e.due("below, bark up", x.of(1, 0, 2), 0);
        e.due("top, bark up", x.of(1, 1, 2), 0);
        WoodStack wet = new WoodStack(2);
        wet.weather(0, 0, 9, 0);
        wet.lay(0, 0, 1, 2000);
        wet.bark(0, 0, false);
        wet.week(0);
        e.due("dries, then is rained on", wet.of(0, 0, 2), 2000 - 100 + 90);
    }

    /** The week since which a stack is fallen whose outermost columns are so high. */
    private int since(int left, int right, int stand) {
        WoodStack x = Check.ruled(3, "dry 0;thick water;stand " + stand + ";");
        x.weather(0, 0, 0, 0);
        x.lay(0, 0, 1, left);
        x.lay(2, 0, 1, right);
        x.week(0);
        return x.stack(2);
    }

    private void leanAsStand() {
        e.promise(17, "LEAN is above STAND or below - STAND");
        e.due("as much to the right", since(100, 150, 50), -1);
        e.due("one more to the right", since(100, 151, 50), 1);
        e.due("as much to the left", since(150, 100, 50), -1);
        e.due("one more to the left", since(151, 100, 50), 1);
        e.due("none by 0", since(7, 7, 0), -1);
        e.due("one by 0", since(7, 8, 0), 1);
        e.due("minus one by 0", since(8, 7, 0), 1);
        WoodStack x = new WoodStack(2);
        x.weather(0, 0, 0, 0);
        x.lay(1, 0, 2, 1000);
        x.week(0);
        e.due("20 by 20, without a text", x.stack(2), -1);
        x.lay(1, 0, 1, 280);
        x.week(0);
        e.due("30 by 20, without a text", x.stack(2), 2);
    }

    private void leanOfTheOutermost() {
        e.promise(17, "LEAN: HEIGHT of the outermost COLUMN on the right less that on the left.");
        WoodStack x = new WoodStack(3);
        x.weather(0, 0, 0, 0);
        for (int z = 0; z < 8; z++) {
            x.lay(1, 0, 20, 2000);
        }
        e.due("a full column in the middle", x.stack(0), 0);
        x.week(0);
        e.due("does not fall", x.stack(2), -1);
        WoodStack y = Check.ruled(6, "thick 999;stand 9999;");
        y.weather(0, 0, 0, 0);
        for (int z = 0; z < 8; z++) {
            y.lay(0, 0, 1, 1);
        }
        e.due("the most to the left", y.stack(0), -8 * 999);
    }

    private void cantFallAgain() {
        e.promise(17, "it can't fall again");
        WoodStack x = Edges.fallen(2);
        for (int week = 2; week < 6; week++) {
            e.due("its week", x.week(0), week);
            e.due("fallen since", x.stack(2), 1);
        }
    }

    private void whileFallen() {
        e.promise(17, "all SPLITS are top 1, beside 4, high 0");
        WoodStack x = Edges.fallen(8);
        x.by(Check.read(x, "beetle top=1 and beside=4 and high=0;"));
        e.due("all of them", x.stack(6), 8);
        x.take(7);
        e.due("the last one", x.stack(6), 1);
        x.by(Check.read(x, "beetle sunny=1;"));
        e.due("it lies in its column", x.stack(6), 1);
    }

    private void emptyStack() {
        e.promise(17, "if it isn't FALLEN and LEAN is above STAND");
        WoodStack x = Check.ruled(2, "stand 0;");
        x.weather(0, 0, 0, 0);
        e.due("a week of none", x.week(0), 1);
        e.due("none does not fall", x.stack(2), -1);
    }
}
