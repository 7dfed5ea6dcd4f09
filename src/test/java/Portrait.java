/** All that calls tell of an object, as one text: of now, and of the image behind it. The object is used up by it. */
final class Portrait {
    private final WoodStack x;
    private final StringBuilder out = new StringBuilder();

    private Portrait(WoodStack x) {
        this.x = x;
    }

    static String of(WoodStack x) {
        Portrait portrait = new Portrait(x);
        portrait.draw();
        x.back();
        portrait.out.append("\nthe image:");
        portrait.draw();
        return portrait.out.toString();
    }

    private void draw() {
        all();
        splits();
        tried();
        weeks();
        texts();
    }

    private void tell(String what, int answer) {
        out.append(' ').append(what).append(' ').append(answer);
    }

    private void all() {
        for (int what = 0; what < 50; what++) {
            tell("about", x.about(what));
        }
        for (int what = 0; what <= 6; what++) {
            tell("stack", x.stack(what));
        }
        tell("fault", x.fault(0));
        tell("place", x.fault(1));
    }

    private void splits() {
        for (int column = 0; column < x.about(0); column++) {
            tell("height", x.stack(10 + column));
            tell("missing", x.missing(column, 0));
            int count = x.stack(20 + column);
            tell("count", count);
            for (int z = 0; z < count; z++) {
                for (int what = 0; what <= 8; what++) {
                    tell("of", x.of(column, z, what));
                }
                tell("low", x.spans(0, column, z, 0));
                tell("high", x.spans(0, column, z, 1));
            }
        }
    }

    private void tried() {
        tell("order", x.order(2, 0));
        tell("way", x.way(3, WoodStack.NONE, 2));
        tell("sure", x.sure(2, 1));
        tell("next", x.sure(0, 2));
        tell("small", x.small(1, 700, 5));
        tell("falls", x.falls(0, 20, 6));
    }

    private void weeks() {
        for (int weather = 0; weather < x.about(2); weather++) {
            x.week(weather);
            for (int column = 0; column < x.about(0); column++) {
                tell("water", x.of(column, 0, 2));
            }
        }
    }

    /** What is on the tape, and what each text lays and warms. */
    private void texts() {
        tell("bytes", x.about(8));
        tell("text", x.text());
        tell("fault", x.fault(0));
        tell("place", x.fault(1));
        for (int text = 0; text < x.about(3); text++) {
            tell("laid", x.laid(text));
            x.by(text);
            tell("splits", x.stack(3));
            tell("heat", x.of(0, 0, 7));
        }
    }
}
