/** Promises 19 to 23 and 27: what is tried and changes nothing. */
public final class TriedTest {
    private static final Check CHECK = new Check();

    public static void main(String[] args) {
        order();
        orderByPlanAndFall();
        way();
        wayOfNone();
        spans();
        sure();
        small();
        falls();
        withoutWeathers();
        nearTheLastWeek();
        CHECK.finish();
    }

    private static void due(String call, long got, long want) {
        CHECK.due("Promise " + call, got, want);
    }

    private static void order() {
        WoodStack x = Check.ruled(2, "dry 100;heat water;");
        x.weather(0, 0, 0, 0);
        due("19: none at all", x.order(3, 0), 0);
        due("19: no column of none", x.order(3, 10), -1);
        x.lay(0, 0, 5, 1000);
        x.lay(1, 0, 5, 2000);
        x.lay(1, 0, 5, 300);
        due("19: one", x.order(1, 0), 1000);
        due("19: one, its column", x.order(1, 10), 0);
        due("19: two", x.order(2, 0), 300 + 1900);
        due("19: two, first", x.order(2, 10), 1);
        due("19: two, second", x.order(2, 11), 1);
        due("19: two, third", x.order(2, 12), -1);
        due("19: three", x.order(3, 0), 3000);
        due("19: three, of like ones the lowest first", x.order(3, 10), 0);
        due("19: three, second", x.order(3, 11), 1);
        due("19: three, third", x.order(3, 12), 1);
        due("19: five end with three", x.order(5, 0), 3000);
        due("19: five, third", x.order(5, 12), 1);
        due("19: five, fourth", x.order(5, 13), -1);
        due("19: n 0", x.order(0, 0), -1);
        due("19: n 6", x.order(6, 0), -1);
        due("19: n far below", x.order(Integer.MIN_VALUE, 0), -1);
        for (int what : new int[] {-1, 1, 9, 15, 16, Integer.MAX_VALUE, Integer.MIN_VALUE}) {
            due("19: what " + what, x.order(5, what), -1);
        }
        due("19: changes nothing", x.stack(3), 3);
        due("19: no week went by", x.about(1), 0);
        due("19: the water is as it was", x.of(1, 1, 2), 300);
    }

    private static void orderByPlanAndFall() {
        WoodStack x = Check.ruled(2, "dry wind*100;heat 2000-water;");
        x.weather(0, 0, 0, 0);
        x.weather(9, 0, 0, 0);
        x.lay(0, 0, 5, 2000);
        x.lay(1, 0, 5, 2000);
        x.lay(1, 0, 5, 2000);
        due("19: by plan 0 alone", x.order(2, 0), 0);
        x.plan(1, 1);
        due("19: the second week is too late for two", x.order(2, 0), 0);
        due("19: but not for three", x.order(3, 0), 900);
        x.plan(0, 1);
        due("19: both weeks", x.order(3, 0), 900 + 1800);
        WoodStack y = Check.ruled(2, "stand 0;thick 10;heat high*100+1+week*10;dry 0;");
        y.weather(0, 0, 0, 0);
        for (int i = 0; i < 6; i++) {
            y.lay(i % 2, 0, 1, 1);
        }
        due("19: falls behind the first", y.order(3, 0), 201 + 11 + 21);
        due("19: by the lowest columns", y.order(3, 12), 0);
        y.take(1);
        y.week(0);
        due("19: fallen, the highest of a column", y.order(1, 0), 11);
        due("19: fallen, from column 0", y.order(2, 11), 0);
    }

    private static void way() {
        WoodStack x = Check.ruled(2, "dry 50+bark*50+sunny*200;stand crossed*1000;thick size*10;");
        x.weather(0, 0, 0, 0);
        x.lay(0, 0, 10, 500);
        x.lay(1, 0, 9, 500);
        x.bark(0, 0, false);
        int[][] one = {{1, 1}, {0, 1}, {1, 2}, {0, 2}, {1, 1}, {0, 1}, {1, 2}, {0, 2}};
        int[][] three = {{2, 1}, {1, 1}, {2, 4}, {1, 4}, {2, 1}, {1, 1}, {2, 4}, {1, 4}};
        for (int i = 0; i < 8; i++) {
            due("20: dry by way " + i, x.way(1, i, 0), one[i][0]);
            due("20: stood by way " + i, x.way(1, i, 1), one[i][1]);
            due("20: dry in three by way " + i, x.way(3, i, 0), three[i][0]);
            due("20: stood in three by way " + i, x.way(3, i, 1), three[i][1]);
        }
        due("20: best to dry", x.way(1, -1, 0), 0);
        due("20: best to stand", x.way(1, -1, 1), 2);
        due("20: both", x.way(1, -1, 2), 2);
        due("20: what 2 of a way", x.way(1, 0, 2), -1);
        due("20: what 3 of all", x.way(1, -1, 3), -1);
        due("20: what -1", x.way(1, 0, -1), -1);
        due("20: way 8", x.way(1, 8, 0), -1);
        due("20: way -2", x.way(1, -2, 0), -1);
        due("20: n 0", x.way(0, 0, 0), -1);
        due("20: n 41", x.way(41, 0, 0), -1);
        due("20: n 40", x.way(40, 2, 1), 41);
        due("20: changes nothing", x.of(0, 0, 3), 0);
        due("20: nor the ends", x.about(6), 0);
        due("20: nor the side", x.about(7), 0);
        x.week(0);
        due("20: fallen now", x.way(2, 2, 1), 0);
        due("20: fallen, the best to stand", x.way(2, -1, 1), 0);
        WoodStack side = Check.ruled(3, "dry sunny*400;stand 9999;");
        side.weather(0, 0, 0, 0);
        side.lay(2, 0, 1, 500);
        due("20: on the sun's side", side.way(1, -1, 0), 4);
        due("20: both there", side.way(1, -1, 2), 4);
        WoodStack down = Check.ruled(3, "dry 400-bark*400;stand 9999;");
        down.weather(0, 0, 0, 0);
        down.lay(0, 0, 1, 500);
        due("20: bark down", down.way(1, -1, 0), 1);
        due("20: both, bark down", down.way(1, -1, 2), 1);
        WoodStack up = Check.ruled(3, "dry bark*301;stand 9999;");
        up.weather(0, 0, 0, 0);
        up.lay(0, 0, 1, 502);
        due("20: bark up", up.way(1, 0, 0), 0);
        due("20: all alike", up.way(1, -1, 2), 0);
    }

    private static void wayOfNone() {
        WoodStack x = Check.ruled(2, "dry beside*100;stand crossed*1000;thick size*10;");
        x.weather(0, 0, 0, 0);
        x.lay(0, 0, 10, 700);
        x.lay(1, 0, 9, 700);
        due("20: fallen dries", x.way(2, -1, 0), 0);
        due("20: crossed stands", x.way(2, -1, 1), 2);
        due("20: none is best in both", x.way(2, -1, 2), -1);
        due("20: both of it", x.way(1, -1, 2), 2);
    }

    private static void spans() {
        WoodStack x = Check.ruled(2, "dry water/2;");
        x.lay(0, 0, 5, 1234);
        x.lay(1, 1, 5, 1234);
        x.measure(1, 0, 300, 501);
        x.span(0, 10, 900);
        due("21: n 0 without weathers", x.spans(0, 1, 0, 1), 501);
        due("21: n 1 without weathers", x.spans(1, 1, 0, 1), -1);
        x.weather(0, 0, 0, 0);
        due("21: lesser", x.spans(1, 0, 0, 0), 5);
        due("21: greater", x.spans(1, 0, 0, 1), 450);
        due("21: lesser, measured", x.spans(1, 1, 0, 0), 150);
        due("21: greater, measured", x.spans(1, 1, 0, 1), 251);
        due("21: two weeks", x.spans(2, 1, 0, 1), 126);
        due("21: what 2", x.spans(1, 0, 0, 2), -1);
        due("21: what -1", x.spans(1, 0, 0, -1), -1);
        due("21: n -1", x.spans(-1, 0, 0, 0), -1);
        due("21: n 41", x.spans(41, 0, 0, 0), -1);
        due("21: n 40", x.spans(40, 0, 0, 1), 1);
        due("21: no split", x.spans(1, 0, 1, 0), -1);
        due("21: column 2 of 2", x.spans(1, 2, 0, 0), -1);
        due("21: changes nothing", x.of(0, 0, 2), 1234);
        x.by(Check.read(x, "dry water*2-1000;"));
        due("21: the low one is greater then", x.spans(1, 0, 0, 1), 990);
        due("21: the high one is lesser then", x.spans(1, 0, 0, 0), 100);
        WoodStack y = Check.ruled(2, "thick max(1,water/100);stand 5;dry top*10+beside*100;");
        y.weather(0, 0, 0, 0);
        y.lay(0, 0, 1, 0);
        y.lay(1, 1, 1, 0);
        y.span(0, 500, 1900);
        y.span(1, 500, 900);
        due("21: falls by the high ones alone, low", y.spans(2, 1, 0, 0), 500 - 220);
        due("21: falls by the high ones alone, high", y.spans(2, 0, 0, 1), 1900 - 110 - 410);
    }

    private static void sure() {
        WoodStack x = Check.ruled(3, "dry water/2;");
        due("22: no splits", x.sure(0, 0), 0);
        due("22: no splits, next", x.sure(0, 2), -1);
        x.lay(0, 0, 5, 9);
        x.lay(1, 1, 5, 9);
        x.lay(1, 1, 5, 9);
        x.lay(2, 2, 5, 9);
        x.span(0, 0, 200);
        x.span(1, 200, 401);
        x.span(2, 201, 402);
        due("22: sure", x.sure(0, 0), 1);
        due("22: may be", x.sure(0, 1), 3);
        due("22: next, of like ones the lowest", x.sure(0, 2), 10);
        due("22: n 1 without weathers", x.sure(1, 0), -1);
        x.weather(0, 0, 0, 0);
        due("22: sure in a week", x.sure(1, 0), 1);
        due("22: may be in a week", x.sure(1, 1), 4);
        due("22: sure in two", x.sure(2, 0), 4);
        x.measure(1, 0, 0, 2000);
        due("22: not one that is measured", x.sure(0, 2), 11);
        x.measure(1, 1, 0, 2000);
        due("22: the next then", x.sure(0, 2), 20);
        x.measure(2, 0, 7, 7);
        x.span(0, 50, 50);
        due("22: none is above 0", x.sure(0, 2), -1);
        due("22: by what was measured", x.sure(0, 0), 2);
        due("22: by what was measured, may be", x.sure(0, 1), 4);
        due("22: what 3", x.sure(0, 3), -1);
        due("22: what -1", x.sure(0, -1), -1);
        due("22: n -1", x.sure(-1, 0), -1);
        due("22: n 41", x.sure(41, 0), -1);
        WoodStack y = new WoodStack(2);
        y.lay(0, 0, 1, 1);
        y.lay(0, 1, 1, 1);
        y.span(0, 0, 10);
        y.span(1, 0, 11);
        due("22: the widest", y.sure(0, 2), 1);
        y.span(0, 5, 5);
        y.span(1, 6, 7);
        due("22: by one alone", y.sure(0, 2), 1);
    }

    private static void small() {
        WoodStack x = Check.ruled(2, "dry 2000/size;");
        due("23: n 0", x.small(0, 200, 0), 20);
        due("23: n 0, too wet", x.small(0, 201, 0), -1);
        due("23: n 1 without weathers", x.small(0, 0, 1), -1);
        x.weather(0, 0, 0, 0);
        due("23: a week", x.small(0, 400, 1), 10);
        due("23: just wetter", x.small(0, 401, 1), 9);
        due("23: two weeks", x.small(0, 400, 2), 20);
        due("23: two weeks, wet", x.small(3, 2000, 2), 2);
        due("23: the least", x.small(3, 2000, 1), 1);
        due("23: even the least", Check.ruled(2, "dry 0;").small(0, 2000, 0), -1);
        due("23: kind -1", x.small(-1, 0, 1), -1);
        due("23: kind 4", x.small(4, 0, 1), -1);
        due("23: water -1", x.small(0, -1, 1), -1);
        due("23: water 2001", x.small(0, 2001, 1), -1);
        due("23: n -1", x.small(0, 0, -1), -1);
        due("23: n 41", x.small(0, 0, 41), -1);
        due("23: n 40", x.small(0, 2000, 40), 20);
        WoodStack y = Check.ruled(2, "dry sunny*100+top*20+bark*3+kind*1000-beside*500-high*500+week*200;stand 0;");
        y.weather(0, 0, 0, 0);
        y.lay(0, 0, 20, 100);
        y.lay(0, 0, 20, 100);
        y.lay(1, 0, 20, 100);
        due("23: alone, bark up, in the sun", y.small(0, 323, 1), 20);
        due("23: not one more", y.small(0, 324, 1), -1);
        due("23: its kind", y.small(1, 1323, 1), 20);
        due("23: the weeks go on", y.small(0, 323 + 323, 2), 20);
        due("23: the weeks go on, one more", y.small(0, 323 + 324, 2), -1);
        y.ends(0, false, 1);
        due("23: in the shade", y.small(0, 223, 1), 20);
        due("23: in the shade, one more", y.small(0, 224, 1), -1);
        y.week(0);
        due("23: fallen", y.stack(2), 1);
        due("23: but this one isn't", y.small(0, 423, 1), 20);
        due("23: nor does it fall", y.small(0, 423 + 423, 2), 20);
        due("23: changes nothing", y.stack(3), 3);
        WoodStack plan = Check.ruled(2, "dry wind*100;");
        plan.weather(0, 0, 0, 0);
        plan.weather(9, 0, 0, 0);
        plan.plan(1, 1);
        due("23: by plan", plan.small(0, 1100, 1), -1);
        due("23: by plan, the second", plan.small(0, 1100, 2), 20);
    }

    private static void falls() {
        WoodStack x = Check.ruled(2, "dry wind*100*sunny;thick water/10;stand 20;");
        x.lay(0, 0, 5, 300);
        x.lay(1, 0, 5, 300);
        due("27: without weathers", x.falls(0, 1, 1), -1);
        x.weather(0, 0, 0, 0);
        x.weather(5, 0, 0, 0);
        due("27: seed 0, a week", x.falls(0, 1, 1), 0);
        due("27: seed 0, two", x.falls(0, 1, 2), 1);
        due("27: seed 1, a week", x.falls(1, 1, 1), 1);
        due("27: both", x.falls(0, 2, 1), 1);
        due("27: twenty", x.falls(0, 20, 1), 10);
        due("27: X is not cut at first", x.falls(4300, 1, 1), 0);
        due("27: seed 9999", x.falls(9999, 1, 1), 1);
        due("27: seed 9998, two weeks", x.falls(9998, 1, 2), 0);
        due("27: seed 9998, three weeks", x.falls(9998, 1, 3), 1);
        due("27: seeds beyond 9999", x.falls(9999, 2, 1), -1);
        due("27: seed 10000", x.falls(10000, 1, 1), -1);
        due("27: seed -1", x.falls(-1, 2, 1), -1);
        due("27: count 0", x.falls(0, 0, 1), -1);
        due("27: count 21", x.falls(0, 21, 1), -1);
        due("27: n 0", x.falls(0, 1, 0), -1);
        due("27: n 41", x.falls(0, 1, 41), -1);
        due("27: far outside", x.falls(Integer.MAX_VALUE, Integer.MAX_VALUE, Integer.MAX_VALUE), -1);
        due("27: changes nothing", x.stack(2), -1);
        due("27: the clock stays", x.about(1), 0);
        x.week(1);
        due("27: fallen now is fallen then", x.falls(0, 7, 1), 7);
        drawnWeathers();
    }

    /** Each weather but the eleventh lets it stand; the draws are reckoned here once more. */
    private static void drawnWeathers() {
        WoodStack x = Check.ruled(2, "dry wind*100*sunny;thick water/10;stand 20;");
        x.lay(0, 0, 5, 300);
        x.lay(1, 0, 5, 300);
        for (int i = 0; i < 11; i++) {
            x.weather(i == 10 ? 5 : 0, 0, 0, 0);
        }
        for (int seed = 0; seed < 10000; seed += 331) {
            int falls = 40;
            long draw = seed * 7 + 4;
            for (int week = 0; week < 40; week++) {
                falls = draw % 11 == 10 ? Math.min(falls, week) : falls;
                draw = (draw * 163 + 31) % 30097;
            }
            for (int n = 1; n <= 40; n += 13) {
                due("27: seed " + seed + " in " + n, x.falls(seed, 1, n), falls < n ? 1 : 0);
            }
        }
        WoodStack one = Check.ruled(2, "stand 0;");
        one.weather(0, 0, 0, 0);
        one.lay(0, 0, 5, 300);
        due("27: one weather", one.falls(3, 5, 1), 5);
    }

    private static void withoutWeathers() {
        WoodStack x = new WoodStack(2);
        x.lay(0, 0, 5, 300);
        due("19: without weathers", x.order(1, 0), -1);
        due("20: without weathers", x.way(1, 0, 0), -1);
        due("20: all without weathers", x.way(1, -1, 0), -1);
        due("21: without weathers", x.spans(1, 0, 0, 0), -1);
        due("22: without weathers", x.sure(1, 0), -1);
        due("23: without weathers", x.small(0, 0, 1), -1);
        due("27: without weathers", x.falls(0, 1, 1), -1);
        x.weather(0, 0, 0, 0);
        due("19: with one", x.order(1, 0), 110);
    }

    private static void nearTheLastWeek() {
        WoodStack x = new WoodStack(2);
        x.weather(0, 0, 0, 0);
        x.lay(0, 0, 1, 300);
        for (int i = 0; i < 397; i++) {
            x.week(0);
        }
        due("19: up to 399", x.order(2, 0) >= 0 ? 1 : 0, 1);
        due("19: beyond 399", x.order(3, 0), -1);
        due("20: up to 399", x.way(2, 0, 1), 3);
        due("20: beyond 399", x.way(3, 0, 1), -1);
        due("20: all beyond 399", x.way(3, -1, 1), -1);
        due("21: up to 399", x.spans(2, 0, 0, 0), 0);
        due("21: beyond 399", x.spans(3, 0, 0, 0), -1);
        due("22: up to 399", x.sure(2, 1), 1);
        due("22: beyond 399", x.sure(3, 1), -1);
        due("23: up to 399", x.small(0, 0, 2), 20);
        due("23: beyond 399", x.small(0, 0, 3), -1);
        due("27: up to 399", x.falls(0, 1, 2), 0);
        due("27: beyond 399", x.falls(0, 1, 3), -1);
        x.week(0);
        x.week(0);
        due("21: n 0 at 399", x.spans(0, 0, 0, 1), 2000);
        due("22: n 0 at 399", x.sure(0, 1), 1);
        due("23: n 0 at 399", x.small(0, 0, 0), 20);
        due("19: n 1 at 399", x.order(1, 0), -1);
    }
}
