/** Boundary cases of promises 24 to 26 and 28 to 30: a winter, a face, the image, and what is told of all. */
final class CountEdges {
    private final Edges e;

    CountEdges(Edges e) {
        this.e = e;
    }

    void all() {
        winterOutside();
        winterTooFew();
        winterOfCold();
        rememberNone();
        missingOutside();
        missingAheadOfAny();
        missingAtLeast0();
        visitsCutUpwards();
        visitsOfAFullStack();
        imageOfNone();
        imageIsTheLatest();
        imageStays();
        imageWithoutTape();
        backWithoutLaterTexts();
        backFromTheFall();
        aboutOutside();
        aboutAtMost();
    }

    private void winterOutside() {
        e.promise(24, "(HEAT 1 .. 999999)");
        WoodStack x = Edges.full(6);
        for (int heat : new int[] {Edges.LEAST, -1, 0, 1000000, 1000001, Edges.MOST}) {
            e.due("winter(" + heat + ")", x.winter(heat), -1);
        }
        e.due("the least", x.winter(1), 1);
        e.due("the most is more than all", x.winter(999999), -1);
    }

    private void winterTooFew() {
        e.promise(24, "NONE: all are too few");
        WoodStack x = new WoodStack(2);
        e.due("of none", x.winter(1), -1);
        x.lay(0, 0, 10, 500);
        x.lay(0, 0, 20, 500);
        e.due("just the greatest", x.winter(400), 1);
        e.due("one more than the greatest", x.winter(401), 2);
        e.due("just all", x.winter(600), 2);
        e.due("one more than all", x.winter(601), -1);
        e.due("none is taken", x.stack(3), 2);
        WoodStack full = Check.ruled(6, "heat 9999;");
        for (int i = 0; i < 48; i++) {
            full.lay(i % 6, 0, 1, 1);
        }
        e.due("just all of the most", full.winter(48 * 9999), 48);
        e.due("one more than all of the most", full.winter(48 * 9999 + 1), -1);
        e.due("just 47", full.winter(47 * 9999), 47);
        e.due("one more than 47", full.winter(47 * 9999 + 1), 48);
    }

    private void winterOfCold() {
        e.promise(24, "the fewest SPLITS of which HEAT together is as much as told, the greatest first; none.");
        WoodStack x = Check.ruled(2, "heat 0;");
        x.lay(0, 0, 1, 1);
        e.due("none warms", x.winter(1), -1);
        WoodStack fallen = Edges.fallen(8);
        e.due("all of a fallen one", fallen.winter(fallenHeat(fallen)), 8);
        e.due("one more", fallen.winter(fallenHeat(fallen) + 1), -1);
    }

    private static int fallenHeat(WoodStack x) {
        int heat = 0;
        for (int z = 0; z < 8; z++) {
            heat += x.of(0, z, 7);
        }
        return heat;
    }

    private void rememberNone() {
        e.promise(25, "A FACE is remembered: how many SPLITS there are.");
        WoodStack x = new WoodStack(2);
        e.due("none", x.remember(), 0);
        e.due("a face of none", x.missing(0, 0), 0);
        e.due("visits by none", x.missing(-1, 1), 0);
        e.due("a full one", Edges.full(6).remember(), 48);
        WoodStack fallen = Edges.fallen(8);
        e.due("a fallen one", fallen.remember(), 8);
        fallen.take(8);
        e.due("all are missing", fallen.missing(0, 0), 8);
        e.due("the face is remembered anew", fallen.remember(), 0);
        e.due("none is missing", fallen.missing(0, 0), 0);
    }

    private void missingOutside() {
        e.promise(26, "NONE for others, and ahead of any FACE.");
        for (int w = 2; w <= 6; w++) {
            WoodStack x = Edges.full(w);
            x.remember();
            int[][] wrong = {{w, 0}, {6, 0}, {-1, 0}, {-2, 0}, {-2, 1}, {0, 1}, {0, -1}, {0, 48}, {-1, -1}, {-1, 49}, {-1, Edges.MOST},
                {-1, Edges.LEAST}, {Edges.MOST, 0}, {Edges.LEAST, 0}, {w, 1}};
            for (int[] a : wrong) {
                e.due("missing(" + a[0] + ", " + a[1] + ") of " + w, x.missing(a[0], a[1]), -1);
            }
            e.due("the last column of " + w, x.missing(w - 1, 0), 0);
        }
    }

    private void missingAheadOfAny() {
        e.promise(26, "ahead of any FACE");
        WoodStack x = Edges.full(2);
        e.due("a column", x.missing(0, 0), -1);
        e.due("visits", x.missing(-1, 1), -1);
        x.image();
        x.remember();
        e.due("then", x.missing(0, 0), 0);
        x.back();
        e.due("gone back", x.missing(0, 0), -1);
        e.due("gone back, visits", x.missing(-1, 1), -1);
    }

    private void missingAtLeast0() {
        e.promise(26, "(0 at least)");
        WoodStack x = new WoodStack(2);
        x.lay(0, 0, 1, 1);
        x.remember();
        x.take(1);
        for (int i = 0; i < 8; i++) {
            x.lay(1, 0, 1, 1);
        }
        e.due("column 0", x.missing(0, 0), 1);
        e.due("column 1 has more than it had", x.missing(1, 0), 0);
        e.due("what came does not make up for it", x.missing(-1, 1), 1);
        x.lay(0, 0, 1, 1);
        e.due("one laid anew", x.missing(0, 0), 0);
        e.due("no visit", x.missing(-1, 48), 0);
    }

    private void visitsCutUpwards() {
        e.promise(26, "MISSING / m, cut upwards");
        WoodStack x = Edges.full(2);
        x.remember();
        int[][] rows = {{0, 1, 0}, {0, 48, 0}, {1, 1, 1}, {1, 2, 1}, {1, 48, 1}, {5, 5, 1}, {5, 4, 2}, {6, 5, 2}, {10, 5, 2}, {11, 5, 3}, {16, 16, 1},
            {16, 15, 2}, {16, 1, 16}};
        int gone = 0;
        for (int[] row : rows) {
            for (; gone < row[0]; gone++) {
                x.take(1);
            }
            e.due(gone + " by " + row[1], x.missing(-1, row[1]), row[2]);
        }
    }

    private void visitsOfAFullStack() {
        e.promise(26, "VISITS of up to m (1 .. 48; column NONE)");
        WoodStack x = Edges.full(6);
        x.remember();
        x.take(48);
        e.due("by one", x.missing(-1, 1), 48);
        e.due("by 47", x.missing(-1, 47), 2);
        e.due("by 48", x.missing(-1, 48), 1);
        e.due("by 49", x.missing(-1, 49), -1);
        e.due("by 0", x.missing(-1, 0), -1);
        e.due("of a column", x.missing(5, 0), 8);
    }

    private void imageOfNone() {
        e.promise(28, "THE IMAGE is as all is now: how many SPLITS there are.");
        WoodStack x = new WoodStack(2);
        e.due("none", x.image(), 0);
        e.due("a full one", Edges.full(6).image(), 48);
        WoodStack fallen = Edges.fallen(3);
        e.due("a fallen one", fallen.image(), 3);
        fallen.laid(Check.read(fallen, ""));
        e.due("none lies", fallen.stack(3), 0);
        e.due("back", fallen.back(), 3);
        e.due("fallen since", fallen.stack(2), 1);
        e.due("none can be laid", fallen.lay(0, 0, 1, 1), -1);
    }

    private void imageIsTheLatest() {
        e.promise(28, "THE IMAGE is as all is now");
        WoodStack x = new WoodStack(2);
        for (int i = 1; i <= 8; i++) {
            x.lay(0, 0, 1, 1);
            e.due("image() of " + i, x.image(), i);
        }
        x.take(8);
        e.due("back to the latest", x.back(), 8);
    }

    private void imageStays() {
        e.promise(29, "BACK to THE IMAGE (it stays): how many SPLITS there are.");
        WoodStack x = Edges.atWeek(0);
        x.image();
        for (int i = 0; i < 3; i++) {
            x.take(2);
            x.ends(i, true, 1);
            x.week(0);
            x.weather(1, 1, 1, 1);
            e.due("back", x.back(), 2);
            e.due("the week", x.about(1), 0);
            e.due("weathers", x.about(2), 1);
            e.due("crossed", x.about(6), 0);
            e.due("water", x.of(1, 0, 2), 400);
        }
        e.due("back once more", x.back(), 2);
        WoodStack late = Edges.atWeek(399);
        e.due("no week more", late.week(0), -1);
        late.back();
        late.weather(0, 0, 0, 0);
        e.due("the clock went back", late.week(0), 1);
    }

    private void imageWithoutTape() {
        e.promise(29, "AN IMAGE: all as it is, but the tape and the latest FAULT.");
        WoodStack x = new WoodStack(2);
        Check.read(x, "heat;");
        Check.tape(x, "heat 1;");
        x.image();
        Check.tape(x, "heat 22;");
        x.back();
        e.due("the tape is as it was ahead of back()", x.about(8), 8);
        e.due("the fault too", x.fault(0), 1);
        e.due("and its place", x.fault(1), 4);
        e.due("it is a text", x.text(), 0);
        x.back();
        e.due("the latest fault is of the text that went", x.fault(0), 0);
        e.due("which is none any more", x.about(3), 0);
        e.due("the tape is empty still", x.about(8), 0);
    }

    private void backWithoutLaterTexts() {
        e.promise(29, "BACK: all is so again.");
        WoodStack x = new WoodStack(2);
        x.lay(0, 0, 10, 500);
        x.by(Check.read(x, "heat 1;"));
        x.image();
        for (int i = 2; i <= 4; i++) {
            x.by(Check.read(x, "heat " + i + ";"));
        }
        e.due("the fourth rules", x.of(0, 0, 7), 4);
        x.back();
        e.due("the first rules", x.of(0, 0, 7), 1);
        e.due("by its number", x.about(4), 0);
        for (int text = 1; text < 4; text++) {
            e.due("text " + text + " is none", x.by(text), false);
            e.due("text " + text + " lays none", x.laid(text), -2);
        }
        e.due("the next is the second", Check.read(x, "heat 9;"), 1);
        e.due("the first rules still", x.of(0, 0, 7), 1);
        x.by(1);
        e.due("the second is the new one", x.of(0, 0, 7), 9);
    }

    private void backFromTheFall() {
        e.promise(29, "BACK: all is so again.");
        WoodStack x = new WoodStack(2);
        x.weather(0, 0, 0, 0);
        x.lay(0, 0, 10, 600);
        x.image();
        x.week(0);
        e.due("fallen", x.stack(2), 1);
        x.back();
        e.due("not fallen", x.stack(2), -1);
        e.due("it may be laid on", x.lay(0, 0, 1, 1), 1);
    }

    private void aboutOutside() {
        e.promise(30, "NONE for others.");
        WoodStack x = Edges.atWeek(1);
        x.by(Check.read(x, "heat 1;"));
        for (int what : new int[] {Edges.LEAST, -1, 9, 50, 51, 100, Edges.MOST}) {
            e.due("about(" + what + ")", x.about(what), -1);
        }
        e.due("the last of PLAN", x.about(49), 0);
        e.due("the first of PLAN", x.about(10), 0);
    }

    private void aboutAtMost() {
        e.promise(30, "4 THE TEXT (NONE)");
        WoodStack x = new WoodStack(9);
        e.due("none rules", x.about(4), -1);
        for (int i = 0; i < 12; i++) {
            x.weather(0, 0, 0, 0);
        }
        for (int i = 0; i < 5; i++) {
            x.by(Check.read(x, "heat 1;"));
        }
        e.due("none can rule that is none", x.about(4), -1);
        x.by(3);
        x.ends(9, true, 1);
        x.plan(39, 11);
        x.end(0);
        for (int i = 0; i < 16; i++) {
            x.feed(0, 0, 0, 0, 0);
        }
        int[] want = {6, 0, 12, 4, 3, 9, 1, 1, 300, -1};
        for (int what = 0; what < want.length; what++) {
            e.due("about(" + what + ")", x.about(what), want[what]);
        }
        e.due("PLAN of the last week", x.about(49), 11);
    }
}
