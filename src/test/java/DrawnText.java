import java.util.Random;

/** Writes drawn texts: most of them right, others with tokens changed. */
final class DrawnText {
    private static final String[] SPLIT = {"water", "size", "kind", "bark", "high", "top", "beside", "sunny", "week"};
    private static final String[] SKY = {"wind", "sun", "rain", "air"};
    private static final String[] ENDS = {"wide", "tall", "posts", "crossed", "week"};
    private static final String[] SUMS = {"dry", "thick", "stand", "take", "heat"};
    private static final String[] ODD = {"dry", "lay", "on", "min", "max", "not", "and", "or", "<", "<=", ">", ">=", "=",
        "#", "+", "-", "*", "/", "(", ")", ",", ";", "!", "wet", "Dry", "10000", "9999", "99999999999", "0007", "\t",
        "wide", "wind", "water", "beetle", "\u00e9", "%", "  ", "\n", "5", "\0"};

    private final Random draw;
    private String clause = "";

    DrawnText(Random draw) {
        this.draw = draw;
    }

    String write() {
        StringBuilder out = new StringBuilder();
        boolean[] used = new boolean[SUMS.length];
        int clauses = draw.nextInt(10) == 0 ? 25 : 1 + draw.nextInt(7);
        for (int i = 0; i < clauses; i++) {
            String next = clause(used, clauses > 20);
            if (out.length() + next.length() <= 290) {
                out.append(next);
            }
        }
        String text = out.toString();
        if (draw.nextInt(2) == 0) {
            text = spoil(text);
        }
        return text.length() > 300 ? text.substring(0, 300) : text;
    }

    private String clause(boolean[] used, boolean brief) {
        int kind = draw.nextInt(10);
        if (brief) {
            return draw.nextInt(12) == 0 ? "dry 1;" : draw.nextBoolean() ? "beetle 1=0;" : "lay 0,1,9on0;";
        }
        if (kind < 4) {
            clause = "lay";
            return "lay " + draw.nextInt(4) + "," + (1 + draw.nextInt(20)) + "," + draw.nextInt(2001) + " on "
                + draw.nextInt(draw.nextInt(3) == 0 ? 6 : 3) + ";";
        }
        if (kind == 4) {
            clause = "beetle";
            return "beetle " + either() + ";";
        }
        int which = draw.nextInt(SUMS.length);
        if (used[which] && draw.nextInt(12) != 0) {
            return "";
        }
        used[which] = true;
        clause = SUMS[which];
        return clause + " " + sensible(which) + ";";
    }

    private String sensible(int which) {
        String sum = sum(0);
        if (draw.nextInt(3) == 0) {
            return sum;
        }
        switch (which) {
            case 0: return draw.nextBoolean() ? "(water-air*10)/9+" + sum : "water/(2+size)+" + sum;
            case 1: return "size*9-week+" + sum;
            case 2: return "wide*9+posts*9+" + sum;
            case 3: return "-water+" + sum;
            default: return "size*9-water/9+" + sum;
        }
    }

    private String either() {
        String s = both();
        while (draw.nextInt(3) == 0) {
            s += " or " + both();
        }
        return s;
    }

    private String both() {
        String s = ask();
        while (draw.nextInt(3) == 0) {
            s += " and " + ask();
        }
        return s;
    }

    private String ask() {
        String nots = "";
        while (draw.nextInt(4) == 0) {
            nots += "not ";
        }
        String[] signs = {"<", "<=", ">", ">=", "=", "#"};
        return nots + sum(1) + signs[draw.nextInt(6)] + sum(1);
    }

    private String sum(int depth) {
        String s = product(depth);
        while (draw.nextInt(3) == 0) {
            s += (draw.nextBoolean() ? "+" : "-") + product(depth);
        }
        return s;
    }

    private String product(int depth) {
        String s = one(depth);
        while (draw.nextInt(3) == 0) {
            s += (draw.nextBoolean() ? "*" : "/") + one(depth);
        }
        return s;
    }

    private String one(int depth) {
        int kind = draw.nextInt(12);
        if (depth > 9 || kind < 4) {
            return "" + draw.nextInt(draw.nextInt(5) == 0 ? 10000 : 12);
        }
        if (kind < 8) {
            return name();
        }
        if (kind == 8) {
            return "-" + one(depth + 1);
        }
        if (kind == 9) {
            return (draw.nextBoolean() ? "min" : "max") + "(" + sum(depth + 1) + "," + sum(depth + 1) + ")";
        }
        return "(" + sum(depth + 1) + ")";
    }

    private String name() {
        if (draw.nextInt(60) == 0) {
            return ENDS[draw.nextInt(4)];
        }
        if (clause.equals("stand")) {
            return ENDS[draw.nextInt(ENDS.length)];
        }
        if (clause.equals("dry") && draw.nextInt(3) == 0) {
            return SKY[draw.nextInt(SKY.length)];
        }
        return SPLIT[draw.nextInt(SPLIT.length)];
    }

    private String spoil(String text) {
        StringBuilder out = new StringBuilder(text);
        for (int times = 1 + draw.nextInt(2); times > 0; times--) {
            int at = draw.nextInt(out.length() + 1);
            int kind = draw.nextInt(5);
            if (kind == 0 && at < out.length()) {
                out.deleteCharAt(at);
            } else if (kind == 1) {
                out.setLength(at);
            } else if (kind == 2) {
                String opening = draw.nextInt(3) == 0 ? "-" : draw.nextBoolean() ? "(" : "not ";
                for (int i = 3 + draw.nextInt(7); i > 0; i--) {
                    out.insert(at, opening);
                }
            } else {
                out.insert(at, ODD[draw.nextInt(ODD.length)]);
            }
        }
        return out.toString();
    }
}
