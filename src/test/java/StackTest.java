/** Promises 1 to 8 and 15 to 18: what lies in the stack, the weather, the weeks and what is taken. */
public final class StackTest {
    private static final Check CHECK = new Check();

    public static void main(String[] args) {
        newObject();
        lay();
        bark();
        measure();
        span();
        weather();
        plan();
        ends();
        of();
        stack();
        beetles();
        week();
        weekByText();
        fall();
        lastWeek();
        take();
        takeByText();
        takeFallen();
        CHECK.finish();
    }

    private static void due(String call, long got, long want) {
        CHECK.due("Promise " + call, got, want);
    }

    private static void due(String call, boolean got, boolean want) {
        CHECK.due("Promise " + call, got, want);
    }

    private static void newObject() {
        int[][] widths = {{Integer.MIN_VALUE, 2}, {-1, 2}, {1, 2}, {2, 2}, {3, 3}, {5, 5}, {6, 6}, {7, 6}, {Integer.MAX_VALUE, 6}};
        for (int[] pair : widths) {
            due("1: W of " + pair[0], new WoodStack(pair[0]).about(0), pair[1]);
        }
        WoodStack x = new WoodStack(6);
        due("1: no splits", x.stack(3), 0);
        due("1: not fallen", x.stack(2), -1);
        x.lay(0, 0, 5, 100);
        x.weather(1, 1, 1, 1);
        x.ends(3, true, 1);
        due("1: the image is the new object", x.back(), 0);
        due("1: weathers of it", x.about(2), 0);
        due("1: posts of it", x.about(5), 0);
        due("1: crossed of it", x.about(6), 0);
        due("1: side of it", x.about(7), 0);
    }

    private static void lay() {
        WoodStack x = new WoodStack(3);
        due("2: column -1", x.lay(-1, 0, 1, 0), -1);
        due("2: column 3 of 3", x.lay(3, 0, 1, 0), -1);
        due("2: kind -1", x.lay(0, -1, 1, 0), -1);
        due("2: kind 4", x.lay(0, 4, 1, 0), -1);
        due("2: size 0", x.lay(0, 0, 0, 0), -1);
        due("2: size 21", x.lay(0, 0, 21, 0), -1);
        due("2: water -1", x.lay(0, 0, 1, -1), -1);
        due("2: water 2001", x.lay(0, 0, 1, 2001), -1);
        due("2: far outside", x.lay(Integer.MAX_VALUE, Integer.MIN_VALUE, 1, 1), -1);
        due("2: none of these is laid", x.stack(3), 0);
        for (int z = 0; z < 8; z++) {
            due("2: z", x.lay(2, 3, 20, 2000), z);
        }
        due("2: the ninth", x.lay(2, 0, 1, 0), -1);
        due("2: least of all", x.lay(0, 0, 1, 0), 0);
        due("2: nine of them", x.stack(3), 9);
        x.weather(0, 0, 0, 0);
        x.week(0);
        due("2: fallen by now", x.stack(2), 1);
        due("2: none on a fallen one", x.lay(1, 0, 1, 0), -1);
        due("2: still nine", x.stack(3), 9);
    }

    private static void bark() {
        WoodStack x = new WoodStack(2);
        x.lay(1, 0, 5, 500);
        due("3: at first up", x.of(1, 0, 3), 1);
        due("3: down", x.bark(1, 0, false), true);
        due("3: is down", x.of(1, 0, 3), 0);
        due("3: up again", x.bark(1, 0, true), true);
        due("3: is up", x.of(1, 0, 3), 1);
        due("3: no split above", x.bark(1, 1, false), false);
        due("3: none in column 0", x.bark(0, 0, false), false);
        due("3: z -1", x.bark(1, -1, false), false);
        due("3: column 2 of 2", x.bark(2, 0, false), false);
        due("3: column -1", x.bark(-1, 0, false), false);
        due("3: far outside", x.bark(Integer.MIN_VALUE, Integer.MAX_VALUE, false), false);
        due("3: unchanged", x.of(1, 0, 3), 1);
    }

    private static void measure() {
        WoodStack x = new WoodStack(2);
        x.lay(0, 0, 5, 500);
        due("4: not measured", x.of(0, 0, 4), -1);
        due("4: not measured, high", x.of(0, 0, 5), -1);
        due("4: widest", x.measure(0, 0, 0, 2000), true);
        due("4: a point", x.measure(0, 0, 300, 300), true);
        due("4: low", x.of(0, 0, 4), 300);
        due("4: high", x.of(0, 0, 5), 300);
        due("4: low above high", x.measure(0, 0, 301, 300), false);
        due("4: high 2001", x.measure(0, 0, 0, 2001), false);
        due("4: low -2", x.measure(0, 0, -2, 5), false);
        due("4: no split", x.measure(0, 1, 0, 5), false);
        due("4: no split to forget", x.measure(1, 0, -1, 0), false);
        due("4: column 2 of 2", x.measure(2, 0, 0, 5), false);
        due("4: unchanged", x.of(0, 0, 4), 300);
        due("4: not any more", x.measure(0, 0, -1, 77), true);
        due("4: low is none", x.of(0, 0, 4), -1);
        due("4: high is none", x.of(0, 0, 5), -1);
        due("4: not any more once more", x.measure(0, 0, -1, -1), true);
    }

    private static void span() {
        WoodStack x = new WoodStack(2);
        x.lay(0, 3, 5, 500);
        due("5: at first low", x.spans(0, 0, 0, 0), 0);
        due("5: at first high", x.spans(0, 0, 0, 1), 2000);
        due("5: told", x.span(3, 100, 700), true);
        due("5: low", x.spans(0, 0, 0, 0), 100);
        due("5: high", x.spans(0, 0, 0, 1), 700);
        due("5: of another kind", x.span(0, 5, 6), true);
        due("5: kind -1", x.span(-1, 0, 1), false);
        due("5: kind 4", x.span(4, 0, 1), false);
        due("5: low -1", x.span(3, -1, 1), false);
        due("5: high 2001", x.span(3, 0, 2001), false);
        due("5: low above high", x.span(3, 2, 1), false);
        due("5: unchanged", x.spans(0, 0, 0, 1), 700);
        due("5: edges", x.span(3, 2000, 2000), true);
        due("5: at the edge", x.spans(0, 0, 0, 0), 2000);
    }

    private static void weather() {
        WoodStack x = new WoodStack(2);
        due("6: wind -1", x.weather(-1, 0, 0, 0), -1);
        due("6: wind 10", x.weather(10, 0, 0, 0), -1);
        due("6: sun -1", x.weather(0, -1, 0, 0), -1);
        due("6: sun 10", x.weather(0, 10, 0, 0), -1);
        due("6: rain -1", x.weather(0, 0, -1, 0), -1);
        due("6: rain 10", x.weather(0, 0, 10, 0), -1);
        due("6: air -1", x.weather(0, 0, 0, -1), -1);
        due("6: air 41", x.weather(0, 0, 0, 41), -1);
        due("6: none yet", x.about(2), 0);
        for (int i = 0; i < 12; i++) {
            due("6: number", i % 2 == 0 ? x.weather(9, 9, 9, 40) : x.weather(0, 0, 0, 0), i);
        }
        due("6: the thirteenth", x.weather(0, 0, 0, 0), -1);
        due("6: twelve", x.about(2), 12);
    }

    private static void plan() {
        WoodStack x = new WoodStack(2);
        due("7: without weathers", x.plan(0, 0), false);
        x.weather(0, 0, 0, 0);
        x.weather(1, 0, 0, 0);
        due("7: first", x.plan(0, 1), true);
        due("7: last", x.plan(39, 1), true);
        due("7: k 40", x.plan(40, 1), false);
        due("7: k -1", x.plan(-1, 1), false);
        due("7: weather 2 of 2", x.plan(1, 2), false);
        due("7: weather -1", x.plan(1, -1), false);
        due("7: told first", x.about(10), 1);
        due("7: told last", x.about(49), 1);
        due("7: not told", x.about(11), 0);
        x.week(0);
        due("7: stays when a week goes by", x.about(10), 1);
        due("7: told anew", x.plan(0, 0), true);
        due("7: is anew", x.about(10), 0);
    }

    private static void ends() {
        WoodStack x = new WoodStack(4);
        due("8: at first", x.stack(1), 40);
        due("8: all", x.ends(9, true, 1), true);
        due("8: stand", x.stack(1), 40 + 180 + 15);
        due("8: posts -1", x.ends(-1, false, 0), false);
        due("8: posts 10", x.ends(10, false, 0), false);
        due("8: side -1", x.ends(0, false, -1), false);
        due("8: side 2", x.ends(0, false, 2), false);
        due("8: posts unchanged", x.about(5), 9);
        due("8: crossed unchanged", x.about(6), 1);
        due("8: side unchanged", x.about(7), 1);
        due("8: none", x.ends(0, false, 0), true);
        due("8: not crossed any more", x.about(6), 0);
        due("8: stands less", x.stack(1), 40);
        due("8: crossed alone", x.ends(0, true, 0), true);
        due("8: stands so", x.stack(1), 55);
    }

    private static void of() {
        WoodStack x = new WoodStack(2);
        x.lay(1, 2, 7, 299);
        x.lay(1, 3, 20, 200);
        x.lay(1, 0, 3, 201);
        x.lay(1, 1, 20, 0);
        x.lay(1, 1, 13, 300);
        int[][] want = {
            {2, 7, 299, 1, -1, -1, 70, 154, 0},
            {3, 20, 200, 1, -1, -1, 180, 460, 1},
            {0, 3, 201, 1, -1, -1, 28, 68, 0},
            {1, 20, 0, 1, -1, -1, 140, 500, 1},
            {1, 13, 300, 1, -1, -1, 130, 286, 0}};
        for (int z = 0; z < want.length; z++) {
            for (int what = 0; what <= 8; what++) {
                due("15: of(1, " + z + ", " + what + ")", x.of(1, z, what), want[z][what]);
            }
        }
        due("15: what -1", x.of(1, 0, -1), -1);
        due("15: what 9", x.of(1, 0, 9), -1);
        due("15: no split", x.of(0, 0, 0), -1);
        due("15: z 5 of 5", x.of(1, 5, 0), -1);
        due("15: z -1", x.of(1, -1, 0), -1);
        due("15: column 2 of 2", x.of(2, 0, 0), -1);
        due("15: far outside", x.of(Integer.MAX_VALUE, Integer.MAX_VALUE, Integer.MAX_VALUE), -1);
        WoodStack t = Check.ruled(2, "thick size*100-high;heat water-1000;");
        t.lay(0, 0, 20, 999);
        t.lay(0, 0, 1, 2000);
        t.lay(0, 0, 9, 1500);
        due("15: thick at most 999", t.of(0, 0, 6), 999);
        due("15: thick by its z", t.of(0, 1, 6), 99);
        due("15: heat at least 0", t.of(0, 0, 7), 0);
        due("15: heat by the text", t.of(0, 1, 7), 1000);
        t.by(Check.read(t, "thick 0-5;heat 9999*9;"));
        due("15: thick at least 1", t.of(0, 2, 6), 1);
        due("15: heat at most 9999", t.of(0, 2, 7), 9999);
        t.by(-1);
        due("15: thick without the text", t.of(0, 2, 6), 90);
    }

    private static void stack() {
        WoodStack x = new WoodStack(3);
        due("16: air without splits", x.stack(5), 0);
        due("16: height without splits", x.stack(12), 0);
        x.lay(0, 0, 4, 1000);
        x.lay(1, 0, 9, 1000);
        x.lay(1, 0, 2, 150);
        x.lay(2, 0, 20, 200);
        x.lay(2, 0, 5, 500);
        due("16: lean", x.stack(0), 180 + 50 - 40);
        due("16: stand", x.stack(1), 30);
        due("16: not fallen", x.stack(2), -1);
        due("16: splits", x.stack(3), 5);
        due("16: dry", x.stack(4), 2);
        long squares = 40 * 40 + 90 * 90 + 17 * 17 + 180 * 180 + 50 * 50;
        due("16: air", x.stack(5), 1000 - 785 * squares / ((40 + 90 + 180) * 230));
        due("16: beetles without a text", x.stack(6), 0);
        due("16: height 0", x.stack(10), 40);
        due("16: height 1", x.stack(11), 107);
        due("16: height 2", x.stack(12), 230);
        due("16: height 3 of 3", x.stack(13), -100000);
        due("16: count 0", x.stack(20), 1);
        due("16: count 1", x.stack(21), 2);
        due("16: count 2", x.stack(22), 2);
        due("16: count 3 of 3", x.stack(23), -100000);
        for (int what : new int[] {-1, 7, 8, 9, 16, 19, 26, 30, Integer.MIN_VALUE, Integer.MAX_VALUE}) {
            due("16: stack(" + what + ")", x.stack(what), -100000);
        }
        WoodStack one = new WoodStack(2);
        one.lay(0, 0, 10, 500);
        due("16: lean to the left", one.stack(0), -100);
        due("16: air of one", one.stack(5), 215);
        WoodStack t = Check.ruled(2, "stand wide*1000-tall*100-posts*10-crossed-week;");
        t.lay(0, 0, 1, 300);
        t.lay(1, 0, 1, 300);
        t.lay(1, 0, 1, 300);
        t.ends(3, true, 0);
        due("16: stand by the text", t.stack(1), 2000 - 200 - 30 - 1);
        t.lay(0, 0, 1, 300);
        t.lay(0, 0, 1, 300);
        due("16: stand, the tallest is on the left", t.stack(1), 2000 - 300 - 30 - 1);
        t.take(5);
        due("16: stand without splits", t.stack(1), 2000 - 30 - 1);
        t.weather(0, 0, 0, 0);
        t.week(0);
        due("16: stand without splits, a week on", t.stack(1), 2000 - 30 - 1 - 1);
        t.by(Check.read(t, "stand 0-1;"));
        due("16: stand at least 0", t.stack(1), 0);
        t.by(Check.read(t, "stand 9999+1;"));
        due("16: stand at most 9999", t.stack(1), 9999);
    }

    private static void beetles() {
        WoodStack x = Check.ruled(2, "beetle kind=1 and bark=1;beetle size>=5 or not water#7;");
        x.lay(0, 1, 1, 100);
        x.lay(0, 1, 1, 100);
        x.lay(0, 0, 5, 100);
        x.lay(1, 0, 4, 7);
        x.lay(1, 1, 9, 7);
        x.lay(1, 2, 4, 8);
        due("16: beetles, each split once", x.stack(6), 5);
        x.bark(0, 1, false);
        due("16: beetles by the bark", x.stack(6), 4);
        x.by(-1);
        due("16: no text, no beetles", x.stack(6), 0);
        WoodStack y = Check.ruled(3, "beetle top=1 and beside=2 and sunny=0 and high=1;");
        for (int c = 0; c < 3; c++) {
            y.lay(c, 0, 1, 9);
            y.lay(c, 0, 1, 9);
        }
        due("16: beetles by the place", y.stack(6), 1);
        y.ends(0, false, 1);
        due("16: beetles by the side", y.stack(6), 1);
        y.lay(1, 0, 1, 9);
        due("16: beetles, none on top", y.stack(6), 1);
        WoodStack z = Check.ruled(2, "beetle 1<1;beetle 1<=0;beetle 1>1;beetle 0>=1;beetle 1=2;beetle 1#1;beetle not 1=1;beetle 1=1 and 1=2;");
        z.lay(0, 0, 1, 9);
        due("16: none of the signs is so", z.stack(6), 0);
        String[] so = {"0<1", "1<=1", "1>0", "1>=1", "2=2", "1#2", "not not 1=1", "1=2 or 1=1", "1=1 or 1=1 and 1=2",
            "0<1 and 1=1", "1<=1 and 1=1", "1>0 and 1=1", "1>=1 and 1=1", "not 0<0 and 0<1 or 1<0"};
        for (String ask : so) {
            WoodStack s = Check.ruled(2, "beetle " + ask + ";");
            s.lay(0, 0, 1, 9);
            due("16: " + ask, s.stack(6), 1);
        }
    }

    private static void week() {
        WoodStack x = new WoodStack(2);
        x.lay(0, 0, 10, 1000);
        x.lay(0, 0, 10, 100);
        x.lay(1, 0, 10, 2000);
        x.lay(1, 0, 9, 10);
        due("17: without weathers", x.week(0), -1);
        x.weather(0, 0, 9, 40);
        x.weather(9, 9, 0, 0);
        due("17: weather 2 of 2", x.week(2), -1);
        due("17: weather -1", x.week(-1), -1);
        due("17: no week went by", x.about(1), 0);
        x.bark(0, 0, false);
        x.bark(1, 1, false);
        due("17: a wet one", x.week(0), 1);
        due("17: moved by nothing", x.of(0, 0, 2), 1000);
        due("17: wetter by the air", x.of(0, 1, 2), 100);
        due("17: the same, to the right", x.of(1, 0, 2), 2000);
        due("17: rained on, on top and bark down", x.of(1, 1, 2), 100);
        due("17: a dry one", x.week(1), 2);
        due("17: dries by 18", x.of(0, 0, 2), 1000 - 1000 * 18 / 40);
        due("17: dries by 18 on top", x.of(0, 1, 2), 100 - 100 * 18 / 40);
        due("17: not fallen", x.stack(2), -1);
        WoodStack y = new WoodStack(6);
        y.weather(0, 0, 0, 40);
        y.lay(1, 0, 10, 10);
        y.lay(1, 0, 10, 1999);
        y.lay(1, 0, 10, 1999);
        for (int z = 0; z < 3; z++) {
            y.lay(0, 0, 10, 10);
            y.lay(2, 0, 10, 500);
        }
        y.week(0);
        due("17: four beside, wetter", y.of(1, 1, 2), 2000);
        due("17: cut towards 0 below 0", y.of(1, 0, 2), 10 - (-390) * (2 - 3) / 40);
        due("17: two beside", y.of(0, 0, 2), 10);
        due("17: three beside", y.of(0, 1, 2), 10 - 390 / 40);
        WoodStack last = new WoodStack(2);
        last.lay(0, 0, 1, 400);
        for (int i = 0; i < 12; i++) {
            last.weather(i == 11 ? 8 : 0, 0, 0, 0);
        }
        last.week(11);
        due("17: by the twelfth", last.of(0, 0, 2), 300);
    }

    private static void weekByText() {
        WoodStack x = Check.ruled(3, "dry wind*1000+sun*100+rain*10+air-week*7;");
        x.weather(0, 3, 2, 5);
        x.lay(0, 0, 1, 2000);
        x.lay(2, 0, 1, 300);
        x.week(0);
        due("17: dry by the sky", x.of(0, 0, 2), 2000 - 325);
        due("17: 0 at least", x.of(2, 0, 2), 0);
        x.week(0);
        due("17: week as it begins", x.of(0, 0, 2), 2000 - 325 - 318);
        x.by(Check.read(x, "dry -9999;"));
        x.week(0);
        due("17: 2000 at most", x.of(2, 0, 2), 2000);
        WoodStack y = Check.ruled(3, "dry bark*1+high*10+top*100+beside*200+sunny*3+size*4+kind*2;");
        y.weather(0, 0, 0, 0);
        y.lay(0, 1, 1, 2000);
        y.lay(0, 1, 1, 2000);
        y.lay(1, 0, 2, 2000);
        y.bark(0, 1, false);
        y.week(0);
        due("17: by the place, below", y.of(0, 0, 2), 2000 - (1 + 400 + 3 + 4 + 2));
        due("17: by the place, above", y.of(0, 1, 2), 2000 - (10 + 100 + 200 + 3 + 4 + 2));
        due("17: by the place, beside", y.of(1, 0, 2), 2000 - (1 + 100 + 200 + 8));
        WoodStack r = Check.ruled(2, "dry 9999*9999-9999*100+max(-3,-(2))*min(4,5)+7/0--7/2*100;");
        r.weather(0, 0, 0, 0);
        r.lay(0, 0, 1, 2000);
        r.week(0);
        due("17: at each step, from the left", r.of(0, 0, 2), 2000 - (100 - 8 + 300));
        WoodStack deep = Check.ruled(2, "beetle 1=0 or 1=1 and 9=" + "1+1*max(0,".repeat(8) + "1+0*1" + ")".repeat(8) + ";");
        deep.lay(0, 0, 1, 1);
        due("16: eight within one another", deep.stack(6), 1);
        WoodStack s = Check.ruled(2, "dry 9999*9999/1000-990-9*-1+20/3*3-7/-2;");
        s.weather(0, 0, 0, 0);
        s.lay(0, 0, 1, 2000);
        s.week(0);
        due("17: cut at 1000000", s.of(0, 0, 2), 2000 - (1000 - 990 + 9 + 18 + 3));
    }

    private static void fall() {
        WoodStack x = new WoodStack(2);
        x.weather(9, 9, 9, 0);
        x.weather(0, 0, 5, 0);
        x.lay(0, 0, 4, 1000);
        x.lay(1, 0, 6, 1000);
        x.week(1);
        due("17: lean as stand is not above", x.stack(2), -1);
        x.lay(0, 0, 1, 2000);
        x.lay(1, 0, 1, 2000);
        x.lay(1, 0, 1, 2000);
        due("17: leans now", x.stack(0), 30);
        due("17: falls by a week alone", x.stack(2), -1);
        x.week(1);
        due("17: fallen since the second", x.stack(2), 2);
        x.bark(0, 0, false);
        x.bark(1, 1, false);
        int lower = x.of(0, 0, 2);
        int side = x.of(1, 1, 2);
        x.week(1);
        due("17: all are top and four beside", x.of(0, 0, 2), lower + lower * 2 / 40 + 50);
        due("17: likewise", x.of(1, 1, 2), Math.min(2000, side + side * 2 / 40 + 50));
        due("17: can't fall again", x.stack(2), 2);
        WoodStack y = Check.ruled(2, "beetle high=0 and top=1 and beside=4;stand 0;");
        y.weather(0, 0, 0, 0);
        y.lay(0, 0, 9, 1000);
        y.lay(0, 0, 9, 1000);
        due("17: two that stand", y.stack(6), 0);
        y.week(0);
        due("17: leans to the left, falls", y.stack(2), 1);
        due("17: two that are fallen", y.stack(6), 2);
        y.take(2);
        due("17: all are taken, still fallen", y.stack(2), 1);
        WoodStack z = Check.ruled(2, "thick week*7+1;stand week*5;");
        z.weather(0, 0, 0, 0);
        z.lay(1, 0, 1, 1);
        z.week(0);
        due("17: by the new week", z.stack(2), 1);
    }

    private static void lastWeek() {
        WoodStack x = new WoodStack(2);
        x.weather(0, 0, 0, 0);
        for (int i = 1; i <= 399; i++) {
            due("17: week", x.week(0), i);
        }
        due("17: behind 399", x.week(0), -1);
        due("17: it stays", x.about(1), 399);
    }

    private static void take() {
        WoodStack x = new WoodStack(3);
        due("18: none there", x.take(1), -1);
        x.lay(0, 0, 10, 500);
        x.lay(0, 0, 10, 900);
        x.lay(1, 0, 10, 900);
        x.lay(2, 0, 10, 100);
        x.lay(2, 0, 10, 1000);
        due("18: 0", x.take(0), -1);
        due("18: -1", x.take(-1), -1);
        due("18: 49", x.take(49), -1);
        due("18: six of five", x.take(6), -1);
        due("18: nothing is taken", x.stack(3), 5);
        due("18: of like ones the lowest column", x.take(1), 160);
        due("18: from column 0", x.stack(20), 1);
        due("18: then the driest of the tops, then a like one", x.take(2), 200 + 160);
        due("18: column 2 is left", x.stack(22), 2);
        due("18: the rest", x.take(2), 150 + 240);
        due("18: all gone", x.stack(3), 0);
        WoodStack y = new WoodStack(6);
        for (int i = 0; i < 48; i++) {
            y.lay(i % 6, 0, 1, 0);
        }
        due("18: 48", y.take(48), 48 * 25);
    }

    private static void takeByText() {
        WoodStack x = Check.ruled(3, "take water+kind*1000;heat high*100+top*10+beside;");
        x.lay(0, 0, 1, 500);
        x.lay(0, 0, 1, 100);
        x.lay(1, 1, 1, 7);
        x.lay(2, 0, 1, 500);
        due("18: greatest by take, heat where it lies", x.take(1), 12);
        due("18: kind 1 is gone", x.stack(21), 0);
        due("18: then the wettest top, then the next", x.take(2), 10 + 111);
        due("18: one is left", x.of(0, 0, 2), 500);
    }

    private static void takeFallen() {
        WoodStack x = Check.ruled(2, "stand 0;take size*0;heat water;dry 0;");
        x.weather(0, 0, 0, 0);
        x.lay(0, 1, 2, 30);
        x.lay(1, 0, 3, 40);
        x.lay(1, 0, 4, 50);
        x.lay(1, 2, 6, 60);
        x.lay(1, 3, 7, 70);
        x.bark(1, 2, false);
        x.measure(1, 2, 5, 6);
        x.week(0);
        due("18: fallen", x.stack(2), 1);
        due("18: of like ones the lowest column, then z", x.take(2), 70);
        due("18: those above come down", x.of(1, 0, 2), 50);
        due("18: with their kind", x.of(1, 1, 0), 2);
        due("18: with their size", x.of(1, 1, 1), 6);
        due("18: with their bark", x.of(1, 1, 3), 0);
        due("18: with what was measured", x.of(1, 1, 4), 5);
        due("18: with what was measured, high", x.of(1, 1, 5), 6);
        due("18: the next one, its kind", x.of(1, 2, 0), 3);
        due("18: the next one, its bark", x.of(1, 2, 3), 1);
        due("18: the next one, not measured", x.of(1, 2, 4), -1);
        due("18: none is left above", x.of(1, 3, 0), -1);
        WoodStack y = new WoodStack(2);
        y.weather(0, 0, 0, 0);
        y.lay(0, 0, 20, 100);
        y.lay(0, 0, 20, 900);
        y.week(0);
        due("18: the driest lies below", y.take(1), 20 * (2500 - 98) / 100);
        due("18: the wet one came down", y.of(0, 0, 2), 900 - 900 / 40);
    }
}
