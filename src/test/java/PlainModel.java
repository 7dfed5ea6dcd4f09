import java.util.ArrayList;
import java.util.Arrays;
import java.util.HashMap;
import java.util.List;
import java.util.Map;

/** The document said once more, as plainly as can be, to hold the class against. */
final class PlainModel {
    static final int NONE = -1;

    static final class Split {
        int kind, size, water, low = NONE, high = NONE;
        boolean up = true;

        Split(int kind, int size, int water) {
            this.kind = kind;
            this.size = size;
            this.water = water;
        }

        Split copy() {
            Split s = new Split(kind, size, water);
            s.low = low;
            s.high = high;
            s.up = up;
            return s;
        }
    }

    interface Node {
        int at(int[] env);
    }

    static final List<String> SPLIT_NAMES = List.of("water", "size", "kind", "bark", "high", "top", "beside", "sunny");
    static final List<String> DRY_NAMES = List.of("wind", "sun", "rain", "air");
    static final List<String> STAND_NAMES = List.of("wide", "tall", "posts", "crossed");
    static final List<String> ALL_NAMES = new ArrayList<>();

    static {
        ALL_NAMES.addAll(SPLIT_NAMES);
        ALL_NAMES.addAll(DRY_NAMES);
        ALL_NAMES.add("week");
        ALL_NAMES.addAll(STAND_NAMES);
    }

    static final class Clause {
        String word;
        Node node;
        int[] lay;
    }

    static final class Fault extends RuntimeException {
        private static final long serialVersionUID = 1L;
        final int kind, place;

        Fault(int kind, int place) {
            this.kind = kind;
            this.place = place;
        }
    }

    /** Reads straight from the signs, a token at a time. */
    static final class Parser {
        final String s;
        int pos = 0;
        int start;
        String tok;
        String clause;
        int open = 0;

        Parser(String s) {
            this.s = s;
            next();
        }

        void next() {
            while (pos < s.length() && (s.charAt(pos) == 32 || s.charAt(pos) == 10)) {
                pos++;
            }
            start = pos;
            if (pos == s.length()) {
                tok = "";
                return;
            }
            char c = s.charAt(pos);
            if (letter(c)) {
                while (pos < s.length() && letter(s.charAt(pos))) {
                    pos++;
                }
            } else if (c >= '0' && c <= '9') {
                while (pos < s.length() && s.charAt(pos) >= '0' && s.charAt(pos) <= '9') {
                    pos++;
                }
            } else if (s.startsWith("<=", pos) || s.startsWith(">=", pos)) {
                pos += 2;
            } else {
                pos++;
            }
            tok = s.substring(start, pos);
        }

        static boolean letter(char c) {
            return c >= 'a' && c <= 'z' || c >= 'A' && c <= 'Z';
        }

        boolean isNumber() {
            return !tok.isEmpty() && tok.charAt(0) >= '0' && tok.charAt(0) <= '9';
        }

        Fault fault(int kind) {
            return new Fault(kind, start);
        }

        void must(String t) {
            if (!tok.equals(t)) {
                throw fault(1);
            }
            next();
        }

        int told(int least, int most) {
            if (!isNumber()) {
                throw fault(1);
            }
            java.math.BigInteger v = new java.math.BigInteger(tok);
            if (v.bitLength() > 30 || v.intValue() < least || v.intValue() > most) {
                throw fault(2);
            }
            next();
            return v.intValue();
        }

        List<Clause> all() {
            List<Clause> clauses = new ArrayList<>();
            while (!tok.isEmpty()) {
                boolean sum = List.of("dry", "thick", "stand", "take", "heat").contains(tok);
                if (!sum && !tok.equals("beetle") && !tok.equals("lay")) {
                    throw fault(1);
                }
                for (Clause c : clauses) {
                    if (sum && c.word.equals(tok)) {
                        throw fault(4);
                    }
                }
                if (clauses.size() == 20) {
                    throw fault(6);
                }
                Clause c = new Clause();
                c.word = tok;
                clause = tok;
                next();
                if (sum) {
                    c.node = sum();
                } else if (c.word.equals("beetle")) {
                    c.node = either();
                } else {
                    c.lay = new int[4];
                    c.lay[0] = told(0, 3);
                    must(",");
                    c.lay[1] = told(1, 20);
                    must(",");
                    c.lay[2] = told(0, 2000);
                    must("on");
                    c.lay[3] = told(0, 5);
                }
                must(";");
                clauses.add(c);
            }
            return clauses;
        }

        Node either() {
            Node a = both();
            while (tok.equals("or")) {
                next();
                Node l = a, r = both();
                a = e -> l.at(e) + r.at(e) > 0 ? 1 : 0;
            }
            return a;
        }

        Node both() {
            Node a = ask();
            while (tok.equals("and")) {
                next();
                Node l = a, r = ask();
                a = e -> l.at(e) * r.at(e);
            }
            return a;
        }

        void opening() {
            if (open == 8) {
                throw fault(3);
            }
            open++;
            next();
        }

        Node ask() {
            if (tok.equals("not")) {
                opening();
                Node a = ask();
                open--;
                return e -> a.at(e) == 0 ? 1 : 0;
            }
            Node l = sum();
            String sign = tok;
            if (!List.of("<", "<=", ">", ">=", "=", "#").contains(sign)) {
                throw fault(1);
            }
            next();
            Node r = sum();
            return e -> {
                int c = Integer.compare(l.at(e), r.at(e));
                boolean so = switch (sign) {
                    case "<" -> c < 0;
                    case "<=" -> c <= 0;
                    case ">" -> c > 0;
                    case ">=" -> c >= 0;
                    case "=" -> c == 0;
                    default -> c != 0;
                };
                return so ? 1 : 0;
            };
        }

        static int cap(long v) {
            return v > 1000000 ? 1000000 : v < -1000000 ? -1000000 : (int) v;
        }

        Node sum() {
            Node a = product();
            while (tok.equals("+") || tok.equals("-")) {
                boolean plus = tok.equals("+");
                next();
                Node l = a, r = product();
                a = e -> cap(plus ? (long) l.at(e) + r.at(e) : (long) l.at(e) - r.at(e));
            }
            return a;
        }

        Node product() {
            Node a = one();
            while (tok.equals("*") || tok.equals("/")) {
                boolean times = tok.equals("*");
                next();
                Node l = a, r = one();
                a = e -> {
                    long x = l.at(e), y = r.at(e);
                    return times ? cap(x * y) : y == 0 ? 0 : cap(x / y);
                };
            }
            return a;
        }

        Node one() {
            if (isNumber()) {
                int v = told(0, 9999);
                return e -> v;
            }
            if (tok.equals("(")) {
                opening();
                Node a = sum();
                must(")");
                open--;
                return a;
            }
            if (tok.equals("-")) {
                opening();
                Node a = one();
                open--;
                return e -> -a.at(e);
            }
            if (tok.equals("min") || tok.equals("max")) {
                boolean min = tok.equals("min");
                next();
                if (!tok.equals("(")) {
                    throw fault(1);
                }
                opening();
                Node l = sum();
                must(",");
                Node r = sum();
                must(")");
                open--;
                return e -> min ? Math.min(l.at(e), r.at(e)) : Math.max(l.at(e), r.at(e));
            }
            int name = ALL_NAMES.indexOf(tok);
            if (name < 0) {
                throw fault(1);
            }
            boolean ofIt = tok.equals("week")
                || (clause.equals("stand") ? STAND_NAMES.contains(tok)
                    : SPLIT_NAMES.contains(tok) || clause.equals("dry") && DRY_NAMES.contains(tok));
            if (!ofIt) {
                throw fault(5);
            }
            next();
            return e -> e[name];
        }
    }

    static final class World {
        int w, week, fallen = NONE, posts, side, the = NONE;
        boolean crossed;
        List<List<Split>> cols = new ArrayList<>();
        List<int[]> weathers = new ArrayList<>();
        int[] plan = new int[40];
        int[][] span = new int[4][];
        List<List<Clause>> texts = new ArrayList<>();
        int[] face;

        World copy() {
            World o = new World();
            o.w = w;
            o.week = week;
            o.fallen = fallen;
            o.posts = posts;
            o.side = side;
            o.the = the;
            o.crossed = crossed;
            for (List<Split> col : cols) {
                List<Split> copy = new ArrayList<>();
                for (Split s : col) {
                    copy.add(s.copy());
                }
                o.cols.add(copy);
            }
            o.weathers.addAll(weathers);
            o.plan = plan.clone();
            for (int i = 0; i < 4; i++) {
                o.span[i] = span[i].clone();
            }
            o.texts.addAll(texts);
            o.face = face == null ? null : face.clone();
            return o;
        }

        Node law(String word) {
            if (the != NONE) {
                for (Clause c : texts.get(the)) {
                    if (c.word.equals(word)) {
                        return c.node;
                    }
                }
            }
            return null;
        }

        boolean has(int c, int z) {
            return c >= 0 && c < w && z >= 0 && z < cols.get(c).size();
        }

        int splits() {
            int n = 0;
            for (List<Split> col : cols) {
                n += col.size();
            }
            return n;
        }

        int top(int c, int z) {
            return fallen != NONE || !has(c, z + 1) ? 1 : 0;
        }

        int beside(int c, int z) {
            if (fallen != NONE) {
                return 4;
            }
            int n = 0;
            int[][] around = {{c - 1, z}, {c + 1, z}, {c, z - 1}, {c, z + 1}};
            for (int[] p : around) {
                n += has(p[0], p[1]) ? 1 : 0;
            }
            return n;
        }

        int[] env(int c, int z, int[] weather) {
            Split s = cols.get(c).get(z);
            Map<String, Integer> m = new HashMap<>();
            int[] e = new int[ALL_NAMES.size()];
            Arrays.fill(e, -777777);
            m.put("water", s.water);
            m.put("size", s.size);
            m.put("kind", s.kind);
            m.put("bark", s.up ? 1 : 0);
            m.put("high", fallen != NONE ? 0 : z);
            m.put("top", top(c, z));
            m.put("beside", beside(c, z));
            m.put("sunny", c == (side == 0 ? 0 : w - 1) ? 1 : 0);
            m.put("week", week);
            if (weather != null) {
                m.put("wind", weather[0]);
                m.put("sun", weather[1]);
                m.put("rain", weather[2]);
                m.put("air", weather[3]);
            }
            m.forEach((k, v) -> e[ALL_NAMES.indexOf(k)] = v);
            return e;
        }

        int thick(int c, int z) {
            Node n = law("thick");
            if (n != null) {
                return Math.max(1, Math.min(999, n.at(env(c, z, null))));
            }
            Split s = cols.get(c).get(z);
            return 10 * s.size - (s.water < 300 ? s.size * (300 - s.water) / 100 : 0);
        }

        int heat(int c, int z) {
            Node n = law("heat");
            if (n != null) {
                return Math.max(0, Math.min(9999, n.at(env(c, z, null))));
            }
            Split s = cols.get(c).get(z);
            return s.size * (2500 - s.water) / 100;
        }

        int height(int c) {
            int h = 0;
            for (int z = 0; z < cols.get(c).size(); z++) {
                h += thick(c, z);
            }
            return h;
        }

        int lean() {
            return height(w - 1) - height(0);
        }

        int stand() {
            Node n = law("stand");
            if (n == null) {
                return 10 * w + 20 * posts + (crossed ? 15 : 0);
            }
            int[] e = new int[ALL_NAMES.size()];
            int tall = 0;
            for (List<Split> col : cols) {
                tall = Math.max(tall, col.size());
            }
            e[ALL_NAMES.indexOf("wide")] = w;
            e[ALL_NAMES.indexOf("tall")] = tall;
            e[ALL_NAMES.indexOf("posts")] = posts;
            e[ALL_NAMES.indexOf("crossed")] = crossed ? 1 : 0;
            e[ALL_NAMES.indexOf("week")] = week;
            return Math.max(0, Math.min(9999, n.at(e)));
        }

        void pass(int weather, boolean mayFall) {
            int[] wea = weathers.get(weather);
            Node dry = law("dry");
            List<Integer> after = new ArrayList<>();
            for (int c = 0; c < w; c++) {
                for (int z = 0; z < cols.get(c).size(); z++) {
                    Split s = cols.get(c).get(z);
                    int water;
                    if (dry != null) {
                        water = s.water - dry.at(env(c, z, wea));
                    } else {
                        water = s.water - (s.water - 10 * wea[3]) * (2 + wea[0] + wea[1] - beside(c, z)) / 40;
                        if (top(c, z) == 1 && !s.up) {
                            water += 10 * wea[2];
                        }
                    }
                    after.add(Math.max(0, Math.min(2000, water)));
                }
            }
            int i = 0;
            for (List<Split> col : cols) {
                for (Split s : col) {
                    s.water = after.get(i++);
                }
            }
            week++;
            if (mayFall && fallen == NONE && (lean() > stand() || lean() < -stand())) {
                fallen = week;
            }
        }

        int takeOne() {
            int bc = -1, bz = -1;
            long best = Long.MIN_VALUE;
            for (int c = 0; c < w; c++) {
                for (int z = 0; z < cols.get(c).size(); z++) {
                    if (fallen == NONE && has(c, z + 1)) {
                        continue;
                    }
                    Node n = law("take");
                    long v = n != null ? n.at(env(c, z, null)) : -cols.get(c).get(z).water;
                    if (v > best) {
                        best = v;
                        bc = c;
                        bz = z;
                    }
                }
            }
            int heat = heat(bc, bz);
            cols.get(bc).remove(bz);
            return heat;
        }

        int dry() {
            int n = 0;
            for (List<Split> col : cols) {
                for (Split s : col) {
                    n += s.water <= 200 ? 1 : 0;
                }
            }
            return n;
        }
    }

    World now = new World();
    World image;
    String tape = "";
    int faultKind = NONE, faultPlace = NONE;

    PlainModel(int w) {
        now.w = w < 2 ? 2 : w > 6 ? 6 : w;
        for (int i = 0; i < now.w; i++) {
            now.cols.add(new ArrayList<>());
        }
        for (int i = 0; i < 4; i++) {
            now.span[i] = new int[] {0, 2000};
        }
        image = now.copy();
    }

    static boolean in(int v, int a, int b) {
        return a <= v && v <= b;
    }

    int lay(int c, int kind, int size, int water) {
        if (!in(c, 0, now.w - 1) || !in(kind, 0, 3) || !in(size, 1, 20) || !in(water, 0, 2000)) {
            return NONE;
        }
        if (now.fallen != NONE || now.cols.get(c).size() == 8) {
            return NONE;
        }
        now.cols.get(c).add(new Split(kind, size, water));
        return now.cols.get(c).size() - 1;
    }

    boolean bark(int c, int z, boolean up) {
        if (!now.has(c, z)) {
            return false;
        }
        now.cols.get(c).get(z).up = up;
        return true;
    }

    boolean measure(int c, int z, int low, int high) {
        if (!now.has(c, z)) {
            return false;
        }
        Split s = now.cols.get(c).get(z);
        if (low == NONE) {
            s.low = NONE;
            s.high = NONE;
            return true;
        }
        if (low < 0 || low > high || high > 2000) {
            return false;
        }
        s.low = low;
        s.high = high;
        return true;
    }

    boolean span(int kind, int low, int high) {
        if (!in(kind, 0, 3) || low < 0 || low > high || high > 2000) {
            return false;
        }
        now.span[kind] = new int[] {low, high};
        return true;
    }

    int weather(int wind, int sun, int rain, int air) {
        if (!in(wind, 0, 9) || !in(sun, 0, 9) || !in(rain, 0, 9) || !in(air, 0, 40) || now.weathers.size() == 12) {
            return NONE;
        }
        now.weathers.add(new int[] {wind, sun, rain, air});
        return now.weathers.size() - 1;
    }

    boolean plan(int k, int weather) {
        if (!in(k, 0, 39) || !in(weather, 0, now.weathers.size() - 1)) {
            return false;
        }
        now.plan[k] = weather;
        return true;
    }

    boolean ends(int posts, boolean crossed, int side) {
        if (!in(posts, 0, 9) || !in(side, 0, 1)) {
            return false;
        }
        now.posts = posts;
        now.crossed = crossed;
        now.side = side;
        return true;
    }

    int feed(int... five) {
        if (tape.length() + 20 > 300) {
            return NONE;
        }
        for (int v : five) {
            tape += "" + (char) (v >>> 24) + (char) (v >>> 16 & 255) + (char) (v >>> 8 & 255) + (char) (v & 255);
        }
        return tape.length();
    }

    int end(int n) {
        if (n < 0 || n > tape.length()) {
            return NONE;
        }
        tape = tape.substring(0, n);
        return n;
    }

    int text() {
        if (now.texts.size() == 4) {
            return NONE;
        }
        String read = tape;
        tape = "";
        try {
            now.texts.add(new Parser(read).all());
            faultKind = 0;
            faultPlace = NONE;
            return now.texts.size() - 1;
        } catch (Fault f) {
            faultKind = f.kind;
            faultPlace = f.place;
            return NONE;
        }
    }

    int fault(int what) {
        return what == 0 ? faultKind : what == 1 ? faultPlace : NONE;
    }

    boolean by(int text) {
        if (!in(text, NONE, now.texts.size() - 1)) {
            return false;
        }
        now.the = text;
        return true;
    }

    int laid(int text) {
        if (!in(text, 0, now.texts.size() - 1)) {
            return -2;
        }
        now.fallen = NONE;
        for (List<Split> col : now.cols) {
            col.clear();
        }
        List<Clause> clauses = now.texts.get(text);
        for (int i = 0; i < clauses.size(); i++) {
            int[] l = clauses.get(i).lay;
            if (l != null && lay(l[3], l[0], l[1], l[2]) == NONE) {
                return i;
            }
        }
        return NONE;
    }

    int of(int c, int z, int what) {
        if (!now.has(c, z)) {
            return NONE;
        }
        Split s = now.cols.get(c).get(z);
        return switch (what) {
            case 0 -> s.kind;
            case 1 -> s.size;
            case 2 -> s.water;
            case 3 -> s.up ? 1 : 0;
            case 4 -> s.low;
            case 5 -> s.high;
            case 6 -> now.thick(c, z);
            case 7 -> now.heat(c, z);
            case 8 -> s.water <= 200 ? 1 : 0;
            default -> NONE;
        };
    }

    int airIn() {
        if (now.splits() == 0) {
            return 0;
        }
        long widths = 0, tallest = 0, squares = 0;
        for (int c = 0; c < now.w; c++) {
            int widest = 0;
            for (int z = 0; z < now.cols.get(c).size(); z++) {
                int t = now.thick(c, z);
                widest = Math.max(widest, t);
                squares += (long) t * t;
            }
            widths += widest;
            tallest = Math.max(tallest, now.height(c));
        }
        return (int) (1000 - 785 * squares / (widths * tallest));
    }

    int beetles() {
        int n = 0;
        for (int c = 0; c < now.w; c++) {
            for (int z = 0; z < now.cols.get(c).size(); z++) {
                boolean so = false;
                if (now.the != NONE) {
                    for (Clause cl : now.texts.get(now.the)) {
                        so |= cl.word.equals("beetle") && cl.node.at(now.env(c, z, null)) == 1;
                    }
                }
                n += so ? 1 : 0;
            }
        }
        return n;
    }

    int stack(int what) {
        if (in(what, 10, 9 + now.w)) {
            return now.height(what - 10);
        }
        if (in(what, 20, 19 + now.w)) {
            return now.cols.get(what - 20).size();
        }
        return switch (what) {
            case 0 -> now.lean();
            case 1 -> now.stand();
            case 2 -> now.fallen;
            case 3 -> now.splits();
            case 4 -> now.dry();
            case 5 -> airIn();
            case 6 -> beetles();
            default -> -100000;
        };
    }

    int week(int weather) {
        if (!in(weather, 0, now.weathers.size() - 1) || now.week == 399) {
            return NONE;
        }
        now.pass(weather, true);
        return now.week;
    }

    int take(int n) {
        if (!in(n, 1, 48) || now.splits() < n) {
            return NONE;
        }
        int heat = 0;
        for (int i = 0; i < n; i++) {
            heat += now.takeOne();
        }
        return heat;
    }

    boolean goes(int n) {
        return !now.weathers.isEmpty() && now.week + n <= 399;
    }

    /** The best of all orders from a world on: its heat, then its columns. */
    static List<Integer> bestOrder(World world, int k, int n) {
        List<Integer> best = null;
        for (int c = 0; k < n && c < world.w; c++) {
            int z = world.cols.get(c).size() - 1;
            if (z < 0) {
                continue;
            }
            int heat = world.heat(c, z);
            World next = world.copy();
            next.cols.get(c).remove(z);
            next.pass(world.plan[k], true);
            List<Integer> rest = bestOrder(next, k + 1, n);
            rest.set(0, rest.get(0) + heat);
            rest.add(1, c);
            if (best == null || rest.get(0) > best.get(0)) {
                best = rest;
            }
        }
        return best == null ? new ArrayList<>(List.of(0)) : best;
    }

    int order(int n, int what) {
        if (!in(n, 1, 5) || !goes(n) || what != 0 && !in(what, 10, 14)) {
            return NONE;
        }
        List<Integer> best = bestOrder(now, 0, n);
        if (what == 0) {
            return best.get(0);
        }
        return what - 10 + 1 < best.size() ? best.get(what - 10 + 1) : NONE;
    }

    int[] tryWay(int n, int way) {
        World t = now.copy();
        for (List<Split> col : t.cols) {
            for (Split s : col) {
                s.up = (way & 1) == 0;
            }
        }
        t.crossed = (way & 2) != 0;
        t.side = (way & 4) != 0 ? 1 : 0;
        int stood = n + 1;
        for (int k = 0; k <= n; k++) {
            if (t.fallen != NONE) {
                stood = Math.min(stood, k);
            }
            if (k < n) {
                t.pass(t.plan[k], true);
            }
        }
        return new int[] {t.dry(), stood};
    }

    int way(int n, int way, int what) {
        if (!in(n, 1, 40) || !goes(n)) {
            return NONE;
        }
        if (in(way, 0, 7)) {
            return in(what, 0, 1) ? tryWay(n, way)[what] : NONE;
        }
        if (way != NONE || !in(what, 0, 2)) {
            return NONE;
        }
        int[][] all = new int[8][];
        int dry = 0, stood = 0;
        for (int i = 0; i < 8; i++) {
            all[i] = tryWay(n, i);
            dry = Math.max(dry, all[i][0]);
            stood = Math.max(stood, all[i][1]);
        }
        for (int i = 0; i < 8; i++) {
            boolean d = all[i][0] == dry, s = all[i][1] == stood;
            if (what == 0 ? d : what == 1 ? s : d && s) {
                return i;
            }
        }
        return NONE;
    }

    World spanWorld(int n, boolean high) {
        World t = now.copy();
        for (List<Split> col : t.cols) {
            for (Split s : col) {
                s.water = s.low != NONE ? (high ? s.high : s.low) : now.span[s.kind][high ? 1 : 0];
            }
        }
        for (int k = 0; k < n; k++) {
            t.pass(t.plan[k], true);
        }
        return t;
    }

    int spans(int n, int c, int z, int what) {
        if (!now.has(c, z) || !in(what, 0, 1) || !in(n, 0, 40) || n > 0 && !goes(n)) {
            return NONE;
        }
        int a = spanWorld(n, false).cols.get(c).get(z).water;
        int b = spanWorld(n, true).cols.get(c).get(z).water;
        return what == 0 ? Math.min(a, b) : Math.max(a, b);
    }

    int sure(int n, int what) {
        if (!in(what, 0, 2) || !in(n, 0, 40) || n > 0 && !goes(n)) {
            return NONE;
        }
        World lo = spanWorld(n, false), hi = spanWorld(n, true);
        int sure = 0, may = 0, next = NONE, widest = 0;
        for (int c = 0; c < now.w; c++) {
            for (int z = 0; z < now.cols.get(c).size(); z++) {
                int a = lo.cols.get(c).get(z).water, b = hi.cols.get(c).get(z).water;
                sure += a <= 200 && b <= 200 ? 1 : 0;
                may += a <= 200 || b <= 200 ? 1 : 0;
                if (now.cols.get(c).get(z).low == NONE && Math.abs(a - b) > widest) {
                    widest = Math.abs(a - b);
                    next = 10 * c + z;
                }
            }
        }
        return what == 0 ? sure : what == 1 ? may : next;
    }

    int small(int kind, int water, int n) {
        if (!in(kind, 0, 3) || !in(water, 0, 2000) || !in(n, 0, 40) || n > 0 && !goes(n)) {
            return NONE;
        }
        for (int size = 20; size > 0; size--) {
            World t = now.copy();
            t.fallen = NONE;
            for (List<Split> col : t.cols) {
                col.clear();
            }
            t.cols.get(0).add(new Split(kind, size, water));
            for (int k = 0; k < n; k++) {
                t.pass(t.plan[k], false);
            }
            if (t.dry() == 1) {
                return size;
            }
        }
        return NONE;
    }

    int winter(int heat) {
        if (!in(heat, 1, 999999)) {
            return NONE;
        }
        List<Integer> heats = new ArrayList<>();
        for (int c = 0; c < now.w; c++) {
            for (int z = 0; z < now.cols.get(c).size(); z++) {
                heats.add(now.heat(c, z));
            }
        }
        heats.sort((a, b) -> b - a);
        int sum = 0;
        for (int i = 0; i < heats.size(); i++) {
            sum += heats.get(i);
            if (sum >= heat) {
                return i + 1;
            }
        }
        return NONE;
    }

    int remember() {
        now.face = new int[now.w];
        for (int c = 0; c < now.w; c++) {
            now.face[c] = now.cols.get(c).size();
        }
        return now.splits();
    }

    int missing(int column, int m) {
        if (now.face == null) {
            return NONE;
        }
        if (m == 0 && in(column, 0, now.w - 1)) {
            return Math.max(0, now.face[column] - now.cols.get(column).size());
        }
        if (column != NONE || !in(m, 1, 48)) {
            return NONE;
        }
        int all = 0;
        for (int c = 0; c < now.w; c++) {
            all += missing(c, 0);
        }
        return (int) Math.ceil(all / (double) m);
    }

    int falls(int seed, int count, int n) {
        if (!in(seed, 0, 9999) || !in(count, 1, 20) || seed + count > 10000 || !in(n, 1, 40) || !goes(n)) {
            return NONE;
        }
        int fallen = 0;
        for (int s = seed; s < seed + count; s++) {
            World t = now.copy();
            long x = s * 7L + 4;
            for (int k = 0; k < n; k++) {
                t.pass((int) (x % t.weathers.size()), true);
                x = (x * 163 + 31) % 30097;
            }
            fallen += t.fallen != NONE ? 1 : 0;
        }
        return fallen;
    }

    int image() {
        image = now.copy();
        return now.splits();
    }

    int back() {
        now = image.copy();
        return now.splits();
    }

    int about(int what) {
        if (in(what, 10, 49)) {
            return now.plan[what - 10];
        }
        int[] all = {now.w, now.week, now.weathers.size(), now.texts.size(), now.the, now.posts,
            now.crossed ? 1 : 0, now.side, tape.length()};
        return in(what, 0, 8) ? all[what] : NONE;
    }
}
