/** Promises 24 to 26 and 28 to 30: a winter's need, what is missing, the image, and what is told of all. */
public final class CountsTest {
    private static final Check CHECK = new Check();

    public static void main(String[] args) {
        winter();
        remember();
        missing();
        image();
        back();
        backOfTexts();
        about();
        constants();
        CHECK.finish();
    }

    private static void due(String call, long got, long want) {
        CHECK.due("Promise " + call, got, want);
    }

    private static void winter() {
        WoodStack x = new WoodStack(2);
        due("24: no splits", x.winter(1), -1);
        x.lay(0, 0, 4, 500);
        x.lay(0, 0, 10, 500);
        x.lay(1, 0, 5, 500);
        due("24: one is enough", x.winter(200), 1);
        due("24: the greatest and the next", x.winter(201), 2);
        due("24: just two", x.winter(300), 2);
        due("24: all", x.winter(301), 3);
        due("24: just all", x.winter(380), 3);
        due("24: all are too few", x.winter(381), -1);
        due("24: heat 1", x.winter(1), 1);
        due("24: heat 0", x.winter(0), -1);
        due("24: heat -1", x.winter(-1), -1);
        due("24: heat 999999", x.winter(999999), -1);
        due("24: heat 1000000", x.winter(1000000), -1);
        due("24: nothing is taken", x.stack(3), 3);
        WoodStack t = Check.ruled(6, "heat 9999;");
        for (int i = 0; i < 48; i++) {
            t.lay(i % 6, 0, 1, 0);
        }
        due("24: by the text", t.winter(9999 * 48), 48);
        due("24: one more", t.winter(9999 * 48 + 1), -1);
        WoodStack cold = Check.ruled(2, "heat kind*5;");
        cold.lay(0, 0, 1, 0);
        cold.lay(0, 1, 1, 0);
        cold.lay(0, 0, 1, 0);
        due("24: none twice", cold.winter(6), -1);
        due("24: one that warms", cold.winter(5), 1);
    }

    private static void remember() {
        WoodStack x = new WoodStack(2);
        due("25: none", x.remember(), 0);
        x.lay(0, 0, 1, 1);
        x.lay(1, 0, 1, 1);
        x.lay(1, 0, 1, 1);
        due("25: three", x.remember(), 3);
        x.take(1);
        due("26: since then", x.missing(-1, 48), 1);
        due("25: anew", x.remember(), 2);
        due("26: nothing since", x.missing(-1, 1), 0);
    }

    private static void missing() {
        WoodStack x = new WoodStack(3);
        due("26: ahead of any face", x.missing(0, 0), -1);
        due("26: ahead of any face, all", x.missing(-1, 1), -1);
        for (int i = 0; i < 4; i++) {
            x.lay(0, 0, 1, 1);
            x.lay(2, 0, 1, 5);
        }
        x.remember();
        x.take(5);
        x.lay(1, 0, 1, 1);
        x.lay(1, 0, 1, 1);
        due("26: all of column 0", x.missing(0, 0), 4);
        due("26: more than there were", x.missing(1, 0), 0);
        due("26: one of column 2", x.missing(2, 0), 1);
        due("26: visits of 1", x.missing(-1, 1), 5);
        due("26: visits of 2", x.missing(-1, 2), 3);
        due("26: visits of 4", x.missing(-1, 4), 2);
        due("26: visits of 5", x.missing(-1, 5), 1);
        due("26: visits of 48", x.missing(-1, 48), 1);
        due("26: visits of 49", x.missing(-1, 49), -1);
        due("26: visits of 0", x.missing(-1, 0), -1);
        due("26: visits of -1", x.missing(-1, -1), -1);
        due("26: visits to a column", x.missing(0, 1), -1);
        due("26: column 3 of 3", x.missing(3, 0), -1);
        due("26: column -2", x.missing(-2, 0), -1);
        due("26: column -2, visits", x.missing(-2, 1), -1);
    }

    private static void image() {
        WoodStack x = new WoodStack(2);
        due("28: none", x.image(), 0);
        x.lay(0, 0, 1, 1);
        due("28: one", x.image(), 1);
        x.lay(0, 0, 1, 1);
        due("28: two", x.image(), 2);
        x.take(2);
        due("28: it is the latest", x.back(), 2);
        due("28: changes nothing", x.stack(3), 2);
    }

    /** All that an image holds, changed and then gone back to. */
    private static void back() {
        WoodStack x = new WoodStack(2);
        x.weather(1, 2, 3, 4);
        x.weather(9, 0, 0, 0);
        x.plan(5, 1);
        x.lay(0, 1, 5, 500);
        x.lay(1, 2, 5, 700);
        x.bark(1, 0, false);
        x.measure(0, 0, 10, 20);
        x.span(2, 30, 40);
        x.ends(2, true, 1);
        x.week(0);
        x.remember();
        int water = x.of(0, 0, 2);
        x.image();
        Check.tape(x, "heat 1;");
        x.weather(0, 0, 0, 0);
        x.plan(5, 0);
        x.bark(1, 0, true);
        x.measure(0, 0, -1, 0);
        x.span(2, 0, 1);
        x.ends(0, false, 0);
        x.take(1);
        x.lay(1, 0, 20, 1000);
        x.week(1);
        x.remember();
        due("29: fallen", x.stack(2), 2);
        due("29: back", x.back(), 2);
        due("29: weathers", x.about(2), 2);
        due("29: plan", x.about(15), 1);
        due("29: bark", x.of(1, 0, 3), 0);
        due("29: measured", x.of(0, 0, 4), 10);
        due("29: measured, high", x.of(0, 0, 5), 20);
        due("29: span", x.spans(0, 1, 0, 0), 30);
        due("29: span, high", x.spans(0, 1, 0, 1), 40);
        due("29: posts", x.about(5), 2);
        due("29: crossed", x.about(6), 1);
        due("29: side", x.about(7), 1);
        due("29: the week", x.about(1), 1);
        due("29: not fallen", x.stack(2), -1);
        due("29: kind", x.of(0, 0, 0), 1);
        due("29: size", x.of(0, 0, 1), 5);
        due("29: water", x.of(0, 0, 2), water);
        due("29: the tape is not of it", x.about(8), 7);
        x.take(1);
        due("29: the face", x.missing(-1, 1), 1);
        due("29: it stays", x.back(), 2);
        due("29: a weather once more", x.weather(0, 0, 0, 0), 2);
        x.week(1);
        x.image();
        x.back();
        due("29: fallen is of it", x.about(1), 2);
        WoodStack face = new WoodStack(2);
        face.lay(0, 0, 1, 1);
        face.lay(0, 0, 1, 1);
        face.remember();
        face.image();
        face.take(2);
        face.remember();
        due("29: another face", face.missing(-1, 1), 0);
        face.back();
        face.take(2);
        due("29: the face of it", face.missing(-1, 1), 2);
        WoodStack y = new WoodStack(2);
        y.remember();
        y.back();
        due("29: ahead of any face again", y.missing(0, 0), -1);
        WoodStack z = new WoodStack(2);
        z.weather(0, 0, 0, 0);
        z.lay(0, 0, 20, 1000);
        z.week(0);
        z.image();
        z.laid(Check.read(z, ""));
        due("29: not fallen by now", z.stack(2), -1);
        z.back();
        due("29: fallen again", z.stack(2), 1);
    }

    private static void backOfTexts() {
        WoodStack x = new WoodStack(2);
        x.lay(0, 0, 10, 500);
        Check.read(x, "heat 1;");
        x.by(0);
        x.image();
        Check.read(x, "heat 2;");
        x.by(1);
        due("29: the second rules", x.of(0, 0, 7), 2);
        x.back();
        due("29: the first rules", x.of(0, 0, 7), 1);
        due("29: its number", x.about(4), 0);
        due("29: one text", x.about(3), 1);
        due("29: no second", x.by(1) ? 1 : 0, 0);
        due("29: a fault", Check.read(x, "heat 3"), -1);
        due("29: another second", Check.read(x, "heat 3;"), 1);
        x.by(1);
        due("29: it rules", x.of(0, 0, 7), 3);
        x.image();
        x.by(-1);
        x.back();
        due("29: it rules again", x.of(0, 0, 7), 3);
        x.by(0);
        due("29: the first is as it was", x.of(0, 0, 7), 1);
        Check.read(x, "heat 4;");
        Check.read(x, "heat 5;");
        due("29: four", Check.read(x, "heat 6;"), -1);
        x.back();
        due("29: room again", Check.read(x, "heat 6;"), 2);
        x.by(2);
        due("29: that one", x.of(0, 0, 7), 6);
    }

    private static void about() {
        WoodStack x = new WoodStack(5);
        int[] first = {5, 0, 0, 0, -1, 0, 0, 0, 0, -1};
        for (int what = 0; what < first.length; what++) {
            due("30: at first, about(" + what + ")", x.about(what), first[what]);
        }
        for (int k = 0; k < 40; k++) {
            due("30: plan at first", x.about(10 + k), 0);
        }
        x.weather(0, 0, 0, 0);
        x.weather(0, 0, 0, 0);
        x.weather(0, 0, 0, 0);
        x.week(0);
        x.by(Check.read(x, "dry 1;"));
        Check.read(x, "dry 1;");
        x.ends(7, true, 1);
        x.plan(0, 1);
        x.plan(39, 2);
        x.feed(0, 0, 0, 0, 0);
        int[] then = {5, 1, 3, 2, 0, 7, 1, 1, 20, -1, 1, 0};
        for (int what = 0; what < then.length; what++) {
            due("30: then, about(" + what + ")", x.about(what), then[what]);
        }
        due("30: plan of the last", x.about(49), 2);
        for (int what : new int[] {-1, 9, 50, Integer.MIN_VALUE, Integer.MAX_VALUE}) {
            due("30: about(" + what + ")", x.about(what), -1);
        }
    }

    private static void constants() {
        CHECK.due("the constant NONE", WoodStack.NONE, -1);
    }
}
