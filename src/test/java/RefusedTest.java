import java.util.Set;
import java.util.TreeSet;
import java.util.function.IntPredicate;

/**
 * Each argument of each call, just within what the document tells, just outside and far outside: what is refused is
 * answered as its promise says and changes nothing; what only asks changes nothing either.
 */
public final class RefusedTest {
    private static final Check CHECK = new Check();
    private static final int NONE = WoodStack.NONE;

    /** A call of which one argument is told. */
    private interface Call {
        long on(WoodStack x, int value);
    }

    private static final String UNTOUCHED = Portrait.of(stacked());

    public static void main(String[] args) {
        laying();
        weathers();
        texts();
        asking();
        trying();
        counting();
        byState();
        CHECK.finish();
    }

    /** Three columns with six splits, two weathers, two texts, a face, a fault, a tape and an image unlike it all. */
    private static WoodStack stacked() {
        WoodStack x = new WoodStack(3);
        x.weather(9, 9, 1, 2);
        x.weather(3, 4, 2, 8);
        x.plan(1, 1);
        x.plan(39, 1);
        x.span(1, 100, 900);
        x.span(2, 50, 60);
        for (int i = 0; i < 6; i++) {
            x.lay(i % 3, i % 4, 5 + i, 500 + i * 50);
        }
        x.bark(1, 1, false);
        x.measure(1, 0, 300, 500);
        x.ends(9, true, 1);
        Check.read(x, "heat size*9-high;lay 1,5,500 on 0;");
        Check.read(x, "lay 0,3,300 on 0;lay 0,3,300 on 4;");
        x.by(0);
        x.remember();
        x.image();
        x.take(1);
        x.lay(2, 3, 3, 1100);
        x.week(1);
        x.remember();
        Check.read(x, "dry wide;");
        Check.tape(x, "heat 5;");
        return x;
    }

    private static Set<Integer> about(int low, int high) {
        int[] all = {low - 2, low - 1, low, low + 1, high - 1, high, high + 1, high + 2, low + 256, high - 256, low + 65536,
            high - 65536, low ^ Integer.MIN_VALUE, high ^ Integer.MIN_VALUE, ~low, ~high, -low, -high, Integer.MIN_VALUE,
            Integer.MIN_VALUE + 1, Integer.MAX_VALUE - 1, Integer.MAX_VALUE};
        Set<Integer> values = new TreeSet<>();
        for (int value : all) {
            values.add(value);
        }
        return values;
    }

    private static void through(String words, Set<Integer> values, IntPredicate taken, long refusal, boolean asks, Call call) {
        for (int value : values) {
            WoodStack x = stacked();
            long got = call.on(x, value);
            String name = "Promise " + words + " " + value;
            CHECK.due(name + (taken.test(value) ? " is taken" : " is refused"), got != refusal, taken.test(value));
            if (asks || !taken.test(value)) {
                CHECK.due(name + " changes nothing", Portrait.of(x).equals(UNTOUCHED), true);
            }
        }
    }

    private static void does(String words, int low, int high, long refusal, Call call) {
        through(words, about(low, high), v -> v >= low && v <= high, refusal, false, call);
    }

    private static void asks(String words, int low, int high, long refusal, Call call) {
        through(words, about(low, high), v -> v >= low && v <= high, refusal, true, call);
    }

    private static int bit(boolean answer) {
        return answer ? 1 : 0;
    }

    private static void laying() {
        does("2: column", 0, 2, NONE, (x, v) -> x.lay(v, 0, 1, 0));
        does("2: kind", 0, 3, NONE, (x, v) -> x.lay(0, v, 1, 0));
        does("2: size", 1, 20, NONE, (x, v) -> x.lay(0, 0, v, 0));
        does("2: water", 0, 2000, NONE, (x, v) -> x.lay(0, 0, 1, v));
        does("3: column", 0, 2, 0, (x, v) -> bit(x.bark(v, 0, false)));
        does("3: z", 0, 1, 0, (x, v) -> bit(x.bark(1, v, false)));
        does("4: column", 0, 2, 0, (x, v) -> bit(x.measure(v, 0, 7, 8)));
        does("4: z", 0, 1, 0, (x, v) -> bit(x.measure(1, v, 7, 8)));
        does("4: column of one not measured any more", 0, 2, 0, (x, v) -> bit(x.measure(v, 0, NONE, 8)));
        does("4: z of one not measured any more", 0, 1, 0, (x, v) -> bit(x.measure(1, v, NONE, 8)));
        does("4: low, NONE among them", NONE, 2000, 0, (x, v) -> bit(x.measure(1, 0, v, 2000)));
        does("4: low up to high", NONE, 50, 0, (x, v) -> bit(x.measure(1, 0, v, 50)));
        does("4: high", 0, 2000, 0, (x, v) -> bit(x.measure(1, 0, 0, v)));
        does("4: high from low on", 50, 2000, 0, (x, v) -> bit(x.measure(1, 0, 50, v)));
        does("5: kind", 0, 3, 0, (x, v) -> bit(x.span(v, 7, 8)));
        does("5: low", 0, 2000, 0, (x, v) -> bit(x.span(1, v, 2000)));
        does("5: low up to high", 0, 50, 0, (x, v) -> bit(x.span(1, v, 50)));
        does("5: high", 0, 2000, 0, (x, v) -> bit(x.span(1, 0, v)));
        does("5: high from low on", 50, 2000, 0, (x, v) -> bit(x.span(1, 50, v)));
    }

    private static void weathers() {
        does("6: wind", 0, 9, NONE, (x, v) -> x.weather(v, 0, 0, 0));
        does("6: sun", 0, 9, NONE, (x, v) -> x.weather(0, v, 0, 0));
        does("6: rain", 0, 9, NONE, (x, v) -> x.weather(0, 0, v, 0));
        does("6: air", 0, 40, NONE, (x, v) -> x.weather(0, 0, 0, v));
        does("7: k", 0, 39, 0, (x, v) -> bit(x.plan(v, 1)));
        does("7: weather", 0, 1, 0, (x, v) -> bit(x.plan(3, v)));
        does("8: posts", 0, 9, 0, (x, v) -> bit(x.ends(v, false, 0)));
        does("8: side", 0, 1, 0, (x, v) -> bit(x.ends(0, false, v)));
        does("17: weather", 0, 1, NONE, (x, v) -> x.week(v));
        does("18: n", 1, 6, NONE, (x, v) -> x.take(v));
    }

    private static void texts() {
        does("10: n", 0, 7, NONE, (x, v) -> x.end(v));
        asks("12: what", 0, 1, NONE, (x, v) -> x.fault(v));
        does("13: text, NONE among them", NONE, 1, 0, (x, v) -> bit(x.by(v)));
        does("14: text", 0, 1, -2, (x, v) -> x.laid(v));
    }

    private static void asking() {
        asks("15: column", 0, 2, NONE, (x, v) -> x.of(v, 0, 2));
        asks("15: z", 0, 1, NONE, (x, v) -> x.of(1, v, 2));
        asks("15: what", 0, 8, NONE, (x, v) -> x.of(1, 0, v));
        Set<Integer> parts = about(0, 6);
        parts.addAll(about(10, 12));
        parts.addAll(about(20, 22));
        through("16: what", parts, v -> v >= 0 && v <= 6 || v >= 10 && v <= 12 || v >= 20 && v <= 22, -100000, true, (x, v) -> x.stack(v));
        Set<Integer> told = about(0, 8);
        told.addAll(about(10, 49));
        through("30: what", told, v -> v >= 0 && v <= 8 || v >= 10 && v <= 49, NONE, true, (x, v) -> x.about(v));
    }

    private static void trying() {
        Set<Integer> parts = about(0, 0);
        parts.addAll(about(10, 14));
        through("19: what", parts, v -> v == 0 || v >= 10 && v <= 14, NONE, true, (x, v) -> x.order(5, v));
        asks("19: the k-th of three", 10, 12, NONE, (x, v) -> x.order(3, v));
        asks("19: n", 1, 5, NONE, (x, v) -> x.order(v, 0));
        asks("20: n", 1, 40, NONE, (x, v) -> x.way(v, 0, 1));
        asks("20: n of all ways", 1, 40, NONE, (x, v) -> x.way(v, NONE, 1));
        asks("20: way, NONE among them", NONE, 7, NONE, (x, v) -> x.way(3, v, 1));
        asks("20: what of a way", 0, 1, NONE, (x, v) -> x.way(3, 7, v));
        asks("20: what of all ways", 0, 2, NONE, (x, v) -> x.way(3, NONE, v));
        asks("21: n", 0, 40, NONE, (x, v) -> x.spans(v, 1, 0, 1));
        asks("21: column", 0, 2, NONE, (x, v) -> x.spans(3, v, 0, 1));
        asks("21: z", 0, 1, NONE, (x, v) -> x.spans(3, 1, v, 1));
        asks("21: what", 0, 1, NONE, (x, v) -> x.spans(3, 1, 0, v));
        asks("22: n", 0, 40, NONE, (x, v) -> x.sure(v, 1));
        asks("22: what", 0, 2, NONE, (x, v) -> x.sure(0, v));
        asks("23: kind", 0, 3, NONE, (x, v) -> x.small(v, 100, 2));
        asks("23: water", 0, 2000, NONE, (x, v) -> x.small(0, v, 30));
        asks("23: n", 0, 40, NONE, (x, v) -> x.small(0, 100, v));
        asks("27: seed", 0, 9999, NONE, (x, v) -> x.falls(v, 1, 2));
        asks("27: count", 1, 20, NONE, (x, v) -> x.falls(0, v, 2));
        asks("27: count up to seed 9999", 1, 10, NONE, (x, v) -> x.falls(9990, v, 2));
        asks("27: n", 1, 40, NONE, (x, v) -> x.falls(0, 2, v));
    }

    private static void counting() {
        asks("24: heat up to that of all", 1, heatOfAll(), NONE, (x, v) -> x.winter(v));
        asks("26: column", 0, 2, NONE, (x, v) -> x.missing(v, 0));
        asks("26: m of a column", 0, 0, NONE, (x, v) -> x.missing(0, v));
        asks("26: m of all", 1, 48, NONE, (x, v) -> x.missing(NONE, v));
        asks("26: column of visits", NONE, NONE, NONE, (x, v) -> x.missing(v, 1));
    }

    private static int heatOfAll() {
        WoodStack x = stacked();
        int heat = 0;
        for (int column = 0; column < 3; column++) {
            for (int z = 0; z < x.stack(20 + column); z++) {
                heat += x.of(column, z, 7);
            }
        }
        return heat;
    }

    private interface State {
        void of(WoodStack x);
    }

    /** Two objects are made alike; one hears a call that is to be refused, and stays as the other. */
    private static void stays(String words, State state, Call call, long refusal) {
        WoodStack untouched = stacked();
        state.of(untouched);
        WoodStack x = stacked();
        state.of(x);
        CHECK.due("Promise " + words + " is refused", call.on(x, 0), refusal);
        CHECK.due("Promise " + words + " changes nothing", Portrait.of(x).equals(Portrait.of(untouched)), true);
    }

    private static void byState() {
        State fallen = x -> {
            x.by(Check.read(x, "stand 0;"));
            x.week(0);
        };
        stays("2: lay on a fallen stack", fallen, (x, v) -> x.lay(0, 0, 1, 1), NONE);
        stays("2: lay on a full column", x -> lay(x, 7), (x, v) -> x.lay(0, 0, 1, 1), NONE);
        stays("6: weather with 12", x -> tellWeathers(x, 10), (x, v) -> x.weather(1, 1, 1, 1), NONE);
        stays("9: feed beyond 300", x -> feed(x, 14), (x, v) -> x.feed(1, 2, 3, 4, 5), NONE);
        stays("11: text with 4", x -> fourTexts(x), (x, v) -> x.text(), NONE);
        stays("18: take of none", x -> x.take(6), (x, v) -> x.take(1), NONE);
        stays("22: next of none", x -> x.take(6), (x, v) -> x.sure(0, 2), NONE);
        stays("24: winter of none", x -> x.take(6), (x, v) -> x.winter(1), NONE);
        State none = x -> x.laid(Check.read(x, ""));
        stays("19: order of none", none, (x, v) -> x.order(1, 0), 0);
        stays("19: the first of none", none, (x, v) -> x.order(1, 10), NONE);
    }

    private static void lay(WoodStack x, int times) {
        for (int i = 0; i < times; i++) {
            x.lay(0, 0, 1, 1);
        }
    }

    private static void tellWeathers(WoodStack x, int times) {
        for (int i = 0; i < times; i++) {
            x.weather(i % 10, 0, 0, i);
        }
    }

    private static void feed(WoodStack x, int times) {
        for (int i = 0; i < times; i++) {
            x.feed(0x20202020, 0x20202020, 0x20202020, 0x20202020, 0x20202020);
        }
    }

    private static void fourTexts(WoodStack x) {
        Check.read(x, "heat 1;");
        Check.read(x, "heat 2;");
        Check.tape(x, "heat 3;heat");
    }
}
