/** A stack of wood by a wall that dries and falls; ../shared/DOC.md tells what each call answers. */
public final class WoodStack {
    public static final int NONE = -1;

    private static final int COLUMNS = 6;
    private static final int HIGH = 8;
    private static final int PLACES = 48;
    private static final int KINDS = 4;
    private static final int WETTEST = 2000;
    private static final int STILL_DRY = 200;
    private static final int WEATHERS = 12;
    private static final int PLANNED = 40;
    private static final int LAST_WEEK = 399;
    private static final int LONGEST_ORDER = 5;
    private static final int WAYS = 8;
    private static final int MOST_SEEDS = 20;
    private static final int TEXTS = 4;
    private static final int BYTES = 300;
    private static final int FED = 20;
    private static final int CLAUSES = 20;
    private static final int MOST_OPEN = 8;
    private static final int MOST_NUMBER = 9999;
    private static final long MOST_VALUE = 1000000;
    private static final int NO_ANSWER = -100000;
    private static final int NO_TEXT = -2;

    // A word's place in this row is its token; the first seventeen are the NAMES.
    private static final String WORDS = "water size kind bark high top beside sunny wind sun rain air week wide tall posts crossed dry thick stand take heat beetle lay min max not and or on ";
    private static final int WATER = 0;
    private static final int SIZE = 1;
    private static final int KIND = 2;
    private static final int BARK = 3;
    private static final int ABOVE_GROUND = 4;
    private static final int TOP = 5;
    private static final int BESIDE = 6;
    private static final int SUNNY = 7;
    private static final int WIND = 8;
    private static final int SUN = 9;
    private static final int RAIN = 10;
    private static final int AIR = 11;
    private static final int WEEK = 12;
    private static final int WIDE = 13;
    private static final int TALL = 14;
    private static final int POSTS = 15;
    private static final int CROSSED = 16;
    private static final int NAMES = 17;
    private static final int DRY = 17;
    private static final int THICK = 18;
    private static final int STAND = 19;
    private static final int TAKE = 20;
    private static final int HEAT = 21;
    private static final int BEETLE = 22;
    private static final int LAY = 23;
    private static final int MIN = 24;
    private static final int MAX = 25;
    private static final int NOT = 26;
    private static final int AND = 27;
    private static final int OR = 28;
    private static final int ON = 29;

    // The tokens that are no words.
    private static final int NUMBER = 40;
    private static final int THE_END = 41;
    private static final int NO_TOKEN = 42;
    private static final int LESS = 43;
    private static final int AT_MOST = 44;
    private static final int MORE = 45;
    private static final int AT_LEAST = 46;
    private static final int LIKE = 47;
    private static final int UNLIKE = 48;
    private static final int PLUS = 49;
    private static final int MINUS = 50;
    private static final int TIMES = 51;
    private static final int OVER = 52;
    private static final int OPEN = 53;
    private static final int CLOSE = 54;
    private static final int COMMA = 55;
    private static final int SEMICOLON = 56;

    // A text's code: a number is itself, a NAME and a deed lie above all numbers.
    private static final int NAME_CODE = 10000;
    private static final int DEED_CODE = 20000;
    private static final int NEGATE = 57;

    // The parts of a clause, each made of parts of the next level.
    private static final int EITHER_LEVEL = 0;
    private static final int BOTH_LEVEL = 1;
    private static final int ASK_LEVEL = 2;
    private static final int SUM_LEVEL = 3;
    private static final int PRODUCT_LEVEL = 4;
    private static final int ONE_LEVEL = 5;

    private static final int CANT_STAND = 1;
    private static final int WRONG_NUMBER = 2;
    private static final int TOO_DEEP = 3;
    private static final int TWICE = 4;
    private static final int WRONG_NAME = 5;
    private static final int TOO_MANY = 6;

    private final Yard yard;
    private final Yard kept;
    private final Text[] texts = new Text[TEXTS];
    private final Text noText = new Text();
    private final Laws laws = new Laws(noText);
    private final Reader reader = new Reader();
    private final int[] tape = new int[BYTES];
    private int fed = 0;
    private boolean read = false;
    private final Pile tried;
    private final Pile triedHigh;
    private final Search search;
    private final int[] heats = new int[PLACES];
    private final int[] wayDry = new int[WAYS];
    private final int[] wayStood = new int[WAYS];

    public WoodStack(int w) {
        int wide = Math.max(2, Math.min(COLUMNS, w));
        yard = new Yard(wide);
        kept = new Yard(wide);
        tried = new Pile(wide);
        triedHigh = new Pile(wide);
        search = new Search(wide);
        for (int i = 0; i < TEXTS; i++) {
            texts[i] = new Text();
        }
    }

    public int lay(int column, int kind, int size, int water) {
        if (!isKind(kind) || !within(size, 1, 20) || !isWater(water) || yard.pile.isFallen()) {
            return NONE;
        }
        return yard.pile.add(column, kind, size, water);
    }

    public boolean bark(int column, int z, boolean up) {
        if (!yard.pile.holds(column, z)) {
            return false;
        }
        yard.pile.bark[placeOf(column, z)] = up ? 1 : 0;
        return true;
    }

    public boolean measure(int column, int z, int low, int high) {
        if (!yard.pile.holds(column, z) || (low != NONE && !isSpan(low, high))) {
            return false;
        }
        int place = placeOf(column, z);
        yard.pile.low[place] = low;
        yard.pile.high[place] = low == NONE ? NONE : high;
        return true;
    }

    public boolean span(int kind, int low, int high) {
        if (!isKind(kind) || !isSpan(low, high)) {
            return false;
        }
        yard.spanLow[kind] = low;
        yard.spanHigh[kind] = high;
        return true;
    }

    public int weather(int wind, int sun, int rain, int air) {
        boolean told = within(wind, 0, 9) && within(sun, 0, 9) && within(rain, 0, 9) && within(air, 0, 40);
        if (!told || yard.weathers >= WEATHERS) {
            return NONE;
        }
        int number = yard.weathers;
        yard.wind[number] = wind;
        yard.sun[number] = sun;
        yard.rain[number] = rain;
        yard.air[number] = air;
        yard.weathers = number + 1;
        return number;
    }

    public boolean plan(int k, int weather) {
        if (!within(k, 0, PLANNED - 1) || !isWeather(weather)) {
            return false;
        }
        yard.plan[k] = weather;
        return true;
    }

    public boolean ends(int posts, boolean crossed, int side) {
        if (!within(posts, 0, 9) || !within(side, 0, 1)) {
            return false;
        }
        yard.pile.posts = posts;
        yard.pile.crossed = crossed ? 1 : 0;
        yard.pile.side = side;
        return true;
    }

    public int feed(int a, int b, int c, int d, int e) {
        if (fed > BYTES - FED) {
            return NONE;
        }
        feedFour(a);
        feedFour(b);
        feedFour(c);
        feedFour(d);
        feedFour(e);
        return fed;
    }

    private void feedFour(int bytes) {
        for (int shift = 24; shift >= 0 && fed < BYTES; shift -= 8) {
            tape[fed] = (bytes >>> shift) & 255;
            fed++;
        }
    }

    public int end(int n) {
        if (!within(n, 0, fed)) {
            return NONE;
        }
        fed = n;
        return n;
    }

    public int text() {
        int number = yard.texts;
        if (!within(number, 0, TEXTS - 1)) {
            return NONE;
        }
        reader.readAll(tape, fed, texts[number]);
        read = true;
        fed = 0;
        if (reader.fault != 0) {
            return NONE;
        }
        yard.texts = number + 1;
        return number;
    }

    public int fault(int what) {
        if (!read || !within(what, 0, 1)) {
            return NONE;
        }
        return what == 0 ? reader.fault : reader.place;
    }

    public boolean by(int text) {
        if (text != NONE && !isText(text)) {
            return false;
        }
        yard.ruling = text;
        obey();
        return true;
    }

    private void obey() {
        laws.text = isText(yard.ruling) ? texts[yard.ruling] : noText;
    }

    public int laid(int text) {
        if (!isText(text)) {
            return NO_TEXT;
        }
        Text told = texts[text];
        yard.pile.clear();
        for (int i = 0; i < told.clauses; i++) {
            if (told.word[i] == LAY && !layClause(told, i)) {
                return i;
            }
        }
        return NONE;
    }

    private boolean layClause(Text told, int clause) {
        int kind = told.codeAt(clause, 0);
        int size = told.codeAt(clause, 1);
        int water = told.codeAt(clause, 2);
        return yard.pile.add(told.codeAt(clause, 3), kind, size, water) != NONE;
    }

    public int of(int column, int z, int what) {
        Pile pile = yard.pile;
        if (!pile.holds(column, z)) {
            return NONE;
        }
        int place = placeOf(column, z);
        switch (what) {
            case 0: return pile.kind[place];
            case 1: return pile.size[place];
            case 2: return pile.water[place];
            case 3: return pile.bark[place];
            case 4: return pile.low[place];
            case 5: return pile.high[place];
            case 6: return laws.thickOf(pile, column, z);
            case 7: return laws.heatOf(pile, column, z);
            case 8: return isDry(pile.water[place]) ? 1 : 0;
            default: return NONE;
        }
    }

    public int stack(int what) {
        Pile pile = yard.pile;
        if (within(what, 10, 9 + pile.wide)) {
            return laws.heightOf(pile, what - 10);
        }
        if (within(what, 20, 19 + pile.wide)) {
            return pile.count[what - 20];
        }
        switch (what) {
            case 0: return laws.leanOf(pile);
            case 1: return laws.standOf(pile);
            case 2: return pile.fallen;
            case 3: return pile.splits();
            case 4: return pile.drySplits();
            case 5: return laws.airIn(pile);
            case 6: return laws.beetlesIn(pile);
            default: return NO_ANSWER;
        }
    }

    public int week(int weather) {
        if (!isWeather(weather) || yard.pile.week >= LAST_WEEK) {
            return NONE;
        }
        laws.pass(yard.pile, yard, weather);
        return yard.pile.week;
    }

    public int take(int n) {
        if (!within(n, 1, PLACES) || n > yard.pile.splits()) {
            return NONE;
        }
        int heat = 0;
        for (int i = 0; i < n; i++) {
            heat += takeOne();
        }
        return heat;
    }

    private int takeOne() {
        Pile pile = yard.pile;
        int bestColumn = NONE;
        int bestZ = NONE;
        int best = 0;
        for (int column = 0; column < pile.wide; column++) {
            int lowest = pile.isFallen() ? 0 : Math.max(0, pile.count[column] - 1);
            for (int z = lowest; z < pile.count[column]; z++) {
                int worth = laws.worthOf(pile, column, z);
                if (bestColumn == NONE || worth > best) {
                    best = worth;
                    bestColumn = column;
                    bestZ = z;
                }
            }
        }
        if (!pile.holds(bestColumn, bestZ)) {
            return 0;
        }
        int heat = laws.heatOf(pile, bestColumn, bestZ);
        pile.remove(bestColumn, bestZ);
        return heat;
    }

    public int order(int n, int what) {
        boolean asked = what == 0 || within(what, 10, 9 + LONGEST_ORDER);
        if (!asked || !within(n, 1, LONGEST_ORDER) || !canPass(n)) {
            return NONE;
        }
        search.begin(yard.pile);
        search.tryFrom(0, 0, Math.min(n, yard.pile.splits()), yard, laws);
        if (what == 0) {
            return search.bestHeat;
        }
        return what - 10 < search.taken ? search.best[what - 10] : NONE;
    }

    public int way(int n, int way, int what) {
        boolean one = within(way, 0, WAYS - 1) && within(what, 0, 1);
        boolean all = way == NONE && within(what, 0, 2);
        if (!(one || all) || !within(n, 1, PLANNED) || !canPass(n)) {
            return NONE;
        }
        if (one) {
            tryWay(n, way);
            return what == 0 ? wayDry[way] : wayStood[way];
        }
        for (int i = 0; i < WAYS; i++) {
            tryWay(n, i);
        }
        int driest = bestOf(wayDry);
        int firmest = bestOf(wayStood);
        if (what == 2) {
            return bestInBoth(wayDry[driest], wayStood[firmest]);
        }
        return what == 0 ? driest : firmest;
    }

    private void tryWay(int n, int way) {
        tried.become(yard.pile);
        tried.turnBark(way % 2 == 0 ? 1 : 0);
        tried.crossed = way / 2 % 2;
        tried.side = way / 4;
        int stood = tried.isFallen() ? 0 : n + 1;
        for (int k = 0; k < n && k < PLANNED; k++) {
            boolean stands = !tried.isFallen();
            laws.pass(tried, yard, yard.plan[k]);
            if (stands && tried.isFallen()) {
                stood = k + 1;
            }
        }
        wayDry[way] = tried.drySplits();
        wayStood[way] = stood;
    }

    private static int bestOf(int[] row) {
        int best = 0;
        for (int i = 1; i < row.length; i++) {
            if (row[i] > row[best]) {
                best = i;
            }
        }
        return best;
    }

    private int bestInBoth(int mostDry, int longest) {
        for (int i = 0; i < WAYS; i++) {
            if (wayDry[i] == mostDry && wayStood[i] == longest) {
                return i;
            }
        }
        return NONE;
    }

    public int spans(int n, int column, int z, int what) {
        if (!yard.pile.holds(column, z) || !within(what, 0, 1) || !canTry(n)) {
            return NONE;
        }
        trySpans(n);
        return what == 0 ? lesser(placeOf(column, z)) : greater(placeOf(column, z));
    }

    public int sure(int n, int what) {
        if (!within(what, 0, 2) || !canTry(n)) {
            return NONE;
        }
        trySpans(n);
        if (what == 2) {
            return nextToMeasure();
        }
        int found = 0;
        for (int column = 0; column < yard.pile.wide; column++) {
            for (int z = 0; z < yard.pile.count[column]; z++) {
                int place = placeOf(column, z);
                found += isDry(what == 0 ? greater(place) : lesser(place)) ? 1 : 0;
            }
        }
        return found;
    }

    private void trySpans(int n) {
        tried.become(yard.pile);
        triedHigh.become(yard.pile);
        for (int column = 0; column < yard.pile.wide; column++) {
            for (int z = 0; z < yard.pile.count[column]; z++) {
                int place = placeOf(column, z);
                int kind = tried.kind[place];
                boolean measured = tried.low[place] != NONE;
                tried.water[place] = measured ? tried.low[place] : yard.spanLow[kind];
                triedHigh.water[place] = measured ? tried.high[place] : yard.spanHigh[kind];
            }
        }
        for (int k = 0; k < n && k < PLANNED; k++) {
            laws.pass(tried, yard, yard.plan[k]);
            laws.pass(triedHigh, yard, yard.plan[k]);
        }
    }

    private int lesser(int place) {
        return Math.min(tried.water[place], triedHigh.water[place]);
    }

    private int greater(int place) {
        return Math.max(tried.water[place], triedHigh.water[place]);
    }

    private int nextToMeasure() {
        int widest = 0;
        int next = NONE;
        for (int column = 0; column < yard.pile.wide; column++) {
            for (int z = 0; z < yard.pile.count[column]; z++) {
                int place = placeOf(column, z);
                int width = greater(place) - lesser(place);
                if (yard.pile.low[place] == NONE && width > widest) {
                    widest = width;
                    next = 10 * column + z;
                }
            }
        }
        return next;
    }

    public int small(int kind, int water, int n) {
        if (!isKind(kind) || !isWater(water) || !canTry(n)) {
            return NONE;
        }
        for (int size = 20; size >= 1; size--) {
            tried.become(yard.pile);
            tried.clear();
            tried.add(0, kind, size, water);
            for (int k = 0; k < n && k < PLANNED; k++) {
                laws.dryAll(tried, yard, yard.plan[k]);
            }
            if (isDry(tried.water[0])) {
                return size;
            }
        }
        return NONE;
    }

    public int winter(int heat) {
        if (!within(heat, 1, 999999)) {
            return NONE;
        }
        int splits = listHeats();
        int together = 0;
        for (int burnt = 1; burnt <= splits; burnt++) {
            together += pullGreatest(splits);
            if (together >= heat) {
                return burnt;
            }
        }
        return NONE;
    }

    private int listHeats() {
        int listed = 0;
        for (int column = 0; column < yard.pile.wide; column++) {
            for (int z = 0; z < yard.pile.count[column] && listed < PLACES; z++) {
                heats[listed] = laws.heatOf(yard.pile, column, z);
                listed++;
            }
        }
        return listed;
    }

    private int pullGreatest(int listed) {
        int greatest = 0;
        for (int i = 1; i < listed; i++) {
            if (heats[i] > heats[greatest]) {
                greatest = i;
            }
        }
        int heat = heats[greatest];
        heats[greatest] = 0;
        return heat;
    }

    public int remember() {
        System.arraycopy(yard.pile.count, 0, yard.face, 0, COLUMNS);
        yard.faced = true;
        return yard.pile.splits();
    }

    public int missing(int column, int m) {
        if (!yard.faced) {
            return NONE;
        }
        if (m == 0 && within(column, 0, yard.pile.wide - 1)) {
            return missingOf(column);
        }
        if (column != NONE || !within(m, 1, PLACES)) {
            return NONE;
        }
        int all = 0;
        for (int i = 0; i < yard.pile.wide; i++) {
            all += missingOf(i);
        }
        return (all + m - 1) / m;
    }

    private int missingOf(int column) {
        return Math.max(0, yard.face[column] - yard.pile.count[column]);
    }

    public int falls(int seed, int count, int n) {
        boolean asked = within(seed, 0, 9999) && within(count, 1, MOST_SEEDS) && within(n, 1, PLANNED);
        if (!asked || seed + count - 1 > 9999 || !canPass(n)) {
            return NONE;
        }
        int fallen = 0;
        for (int i = 0; i < count; i++) {
            fallen += fallsBy(seed + i, n) ? 1 : 0;
        }
        return fallen;
    }

    private boolean fallsBy(int seed, int n) {
        tried.become(yard.pile);
        int x = seed * 7 + 4;
        // What is fallen stays so: the weeks behind a fall need not be tried.
        for (int k = 0; k < n && yard.weathers > 0 && !tried.isFallen(); k++) {
            laws.pass(tried, yard, x % yard.weathers);
            x = (x * 163 + 31) % 30097;
        }
        return tried.isFallen();
    }

    public int image() {
        kept.become(yard);
        return yard.pile.splits();
    }

    public int back() {
        yard.become(kept);
        obey();
        return yard.pile.splits();
    }

    public int about(int what) {
        if (within(what, 10, 9 + PLANNED)) {
            return yard.plan[what - 10];
        }
        switch (what) {
            case 0: return yard.pile.wide;
            case 1: return yard.pile.week;
            case 2: return yard.weathers;
            case 3: return yard.texts;
            case 4: return yard.ruling;
            case 5: return yard.pile.posts;
            case 6: return yard.pile.crossed;
            case 7: return yard.pile.side;
            case 8: return fed;
            default: return NONE;
        }
    }

    private boolean canTry(int n) {
        return n == 0 || (within(n, 1, PLANNED) && canPass(n));
    }

    private boolean canPass(int weeks) {
        return yard.weathers > 0 && yard.pile.week + weeks <= LAST_WEEK;
    }

    private boolean isWeather(int number) {
        return within(number, 0, yard.weathers - 1);
    }

    private boolean isText(int number) {
        return within(number, 0, yard.texts - 1);
    }

    private static boolean isKind(int kind) {
        return within(kind, 0, KINDS - 1);
    }

    private static boolean isWater(int water) {
        return within(water, 0, WETTEST);
    }

    private static boolean isSpan(int low, int high) {
        return isWater(low) && isWater(high) && low <= high;
    }

    private static boolean isDry(int water) {
        return water <= STILL_DRY;
    }

    private static boolean within(int value, int least, int most) {
        return value >= least && value <= most;
    }

    private static int placeOf(int column, int z) {
        return column * HIGH + z;
    }

    /** The stack, its ends and the clock: all that a try may change. */
    private static final class Pile {
        final int wide;
        final int[] kind = new int[PLACES];
        final int[] size = new int[PLACES];
        final int[] water = new int[PLACES];
        final int[] bark = new int[PLACES];
        final int[] low = new int[PLACES];
        final int[] high = new int[PLACES];
        final int[] count = new int[COLUMNS];
        int week = 0;
        int fallen = NONE;
        int posts = 0;
        int crossed = 0;
        int side = 0;

        Pile(int wide) {
            this.wide = wide;
        }

        void become(Pile other) {
            System.arraycopy(other.kind, 0, kind, 0, PLACES);
            System.arraycopy(other.size, 0, size, 0, PLACES);
            System.arraycopy(other.water, 0, water, 0, PLACES);
            System.arraycopy(other.bark, 0, bark, 0, PLACES);
            System.arraycopy(other.low, 0, low, 0, PLACES);
            System.arraycopy(other.high, 0, high, 0, PLACES);
            System.arraycopy(other.count, 0, count, 0, COLUMNS);
            week = other.week;
            fallen = other.fallen;
            posts = other.posts;
            crossed = other.crossed;
            side = other.side;
        }

        boolean isFallen() {
            return fallen != NONE;
        }

        boolean holds(int column, int z) {
            return column >= 0 && column < wide && z >= 0 && z < count[column];
        }

        void clear() {
            for (int column = 0; column < COLUMNS; column++) {
                count[column] = 0;
            }
            fallen = NONE;
        }

        int add(int column, int newKind, int newSize, int newWater) {
            if (!within(column, 0, wide - 1) || count[column] >= HIGH) {
                return NONE;
            }
            int z = count[column];
            int place = placeOf(column, z);
            kind[place] = newKind;
            size[place] = newSize;
            water[place] = newWater;
            bark[place] = 1;
            low[place] = NONE;
            high[place] = NONE;
            count[column] = z + 1;
            return z;
        }

        void remove(int column, int z) {
            if (!holds(column, z)) {
                return;
            }
            for (int i = z; i + 1 < count[column]; i++) {
                bringDown(placeOf(column, i));
            }
            count[column]--;
        }

        private void bringDown(int place) {
            kind[place] = kind[place + 1];
            size[place] = size[place + 1];
            water[place] = water[place + 1];
            bark[place] = bark[place + 1];
            low[place] = low[place + 1];
            high[place] = high[place + 1];
        }

        void turnBark(int up) {
            for (int place = 0; place < PLACES; place++) {
                bark[place] = up;
            }
        }

        int splits() {
            int all = 0;
            for (int column = 0; column < wide; column++) {
                all += count[column];
            }
            return all;
        }

        int drySplits() {
            int found = 0;
            for (int column = 0; column < wide; column++) {
                for (int z = 0; z < count[column]; z++) {
                    found += isDry(water[placeOf(column, z)]) ? 1 : 0;
                }
            }
            return found;
        }

        int tallest() {
            int most = 0;
            for (int column = 0; column < wide; column++) {
                most = Math.max(most, count[column]);
            }
            return most;
        }

        boolean isTop(int column, int z) {
            return isFallen() || z + 1 >= count[column];
        }

        int besideOf(int column, int z) {
            if (isFallen()) {
                return 4;
            }
            int found = z > 0 ? 1 : 0;
            found += z + 1 < count[column] ? 1 : 0;
            found += column > 0 && z < count[column - 1] ? 1 : 0;
            found += column + 1 < wide && z < count[column + 1] ? 1 : 0;
            return found;
        }

        boolean isSunny(int column) {
            return column == (side == 0 ? 0 : wide - 1);
        }
    }

    /** All that an image keeps; of the texts themselves only how many there are. */
    private static final class Yard {
        final Pile pile;
        final int[] wind = new int[WEATHERS];
        final int[] sun = new int[WEATHERS];
        final int[] rain = new int[WEATHERS];
        final int[] air = new int[WEATHERS];
        int weathers = 0;
        final int[] plan = new int[PLANNED];
        final int[] spanLow = new int[KINDS];
        final int[] spanHigh = {WETTEST, WETTEST, WETTEST, WETTEST};
        final int[] face = new int[COLUMNS];
        boolean faced = false;
        // A text is only ever written behind the last one, so those that an image counts stay as they were.
        int texts = 0;
        int ruling = NONE;

        Yard(int wide) {
            pile = new Pile(wide);
        }

        void become(Yard other) {
            pile.become(other.pile);
            System.arraycopy(other.wind, 0, wind, 0, WEATHERS);
            System.arraycopy(other.sun, 0, sun, 0, WEATHERS);
            System.arraycopy(other.rain, 0, rain, 0, WEATHERS);
            System.arraycopy(other.air, 0, air, 0, WEATHERS);
            weathers = other.weathers;
            System.arraycopy(other.plan, 0, plan, 0, PLANNED);
            System.arraycopy(other.spanLow, 0, spanLow, 0, KINDS);
            System.arraycopy(other.spanHigh, 0, spanHigh, 0, KINDS);
            System.arraycopy(other.face, 0, face, 0, COLUMNS);
            faced = other.faced;
            texts = other.texts;
            ruling = other.ruling;
        }
    }

    /** The clauses of a text; each one's code stands with what it works on ahead of the deed. */
    private static final class Text {
        final int[] code = new int[BYTES];
        final int[] word = new int[CLAUSES];
        final int[] from = new int[CLAUSES];
        final int[] to = new int[CLAUSES];
        final int[] once = {NONE, NONE, NONE, NONE, NONE};
        int used = 0;
        int clauses = 0;

        void clear() {
            for (int i = 0; i < once.length; i++) {
                once[i] = NONE;
            }
            used = 0;
            clauses = 0;
        }

        boolean begin(int clauseWord) {
            if (clauses >= CLAUSES) {
                return false;
            }
            word[clauses] = clauseWord;
            from[clauses] = used;
            to[clauses] = used;
            if (standsOnce(clauseWord)) {
                once[clauseWord - DRY] = clauses;
            }
            clauses++;
            return true;
        }

        void emit(int step) {
            if (clauses > 0 && used < BYTES) {
                code[used] = step;
                used++;
                to[clauses - 1] = used;
            }
        }

        int clauseOf(int clauseWord) {
            return standsOnce(clauseWord) ? once[clauseWord - DRY] : NONE;
        }

        int codeAt(int clause, int k) {
            int at = from[clause] + k;
            return within(at, 0, BYTES - 1) ? code[at] : NONE;
        }

        private static boolean standsOnce(int clauseWord) {
            return within(clauseWord, DRY, HEAT);
        }
    }

    /** The tape cut into tokens; a sign that is none is one of its own, for the reader to come to. */
    private static final class Tokens {
        final int[] token = new int[BYTES + 1];
        final int[] value = new int[BYTES + 1];
        final int[] place = new int[BYTES + 1];
        int count = 0;

        void cut(int[] tape, int length) {
            count = 0;
            int at = 0;
            for (int i = 0; i < length && at < length; i++) {
                int sign = tape[at];
                if (sign == ' ' || sign == '\n') {
                    at++;
                } else if (isLetter(sign)) {
                    at = cutWord(tape, at, length);
                } else if (isDigit(sign)) {
                    at = cutNumber(tape, at, length);
                } else {
                    at = cutSign(tape, at, length);
                }
            }
            add(THE_END, 0, length);
        }

        private void add(int newToken, int newValue, int newPlace) {
            if (count <= BYTES) {
                token[count] = newToken;
                value[count] = newValue;
                place[count] = newPlace;
                count++;
            }
        }

        private int cutWord(int[] tape, int start, int length) {
            int at = start;
            while (at < length && isLetter(tape[at])) {
                at++;
            }
            add(wordOf(tape, start, at), 0, start);
            return at;
        }

        private static int wordOf(int[] tape, int start, int end) {
            int number = 0;
            int matched = 0;
            boolean like = true;
            for (int i = 0; i < WORDS.length(); i++) {
                char sign = WORDS.charAt(i);
                if (sign == ' ') {
                    if (like && start + matched == end) {
                        return number;
                    }
                    number++;
                    matched = 0;
                    like = true;
                } else {
                    like = like && start + matched < end && tape[start + matched] == sign;
                    matched++;
                }
            }
            return NO_TOKEN;
        }

        private int cutNumber(int[] tape, int start, int length) {
            int at = start;
            int number = 0;
            while (at < length && isDigit(tape[at])) {
                number = Math.min(MOST_NUMBER + 1, number * 10 + tape[at] - '0');
                at++;
            }
            add(NUMBER, number, start);
            return at;
        }

        private int cutSign(int[] tape, int at, int length) {
            boolean withLike = at + 1 < length && tape[at + 1] == '=';
            if (withLike && tape[at] == '<') {
                add(AT_MOST, 0, at);
                return at + 2;
            }
            if (withLike && tape[at] == '>') {
                add(AT_LEAST, 0, at);
                return at + 2;
            }
            add(signOf(tape[at]), 0, at);
            return at + 1;
        }

        private static int signOf(int sign) {
            switch (sign) {
                case '<': return LESS;
                case '>': return MORE;
                case '=': return LIKE;
                case '#': return UNLIKE;
                case '+': return PLUS;
                case '-': return MINUS;
                case '*': return TIMES;
                case '/': return OVER;
                case '(': return OPEN;
                case ')': return CLOSE;
                case ',': return COMMA;
                case ';': return SEMICOLON;
                default: return NO_TOKEN;
            }
        }

        private static boolean isLetter(int sign) {
            return within(sign, 'a', 'z') || within(sign, 'A', 'Z');
        }

        private static boolean isDigit(int sign) {
            return within(sign, '0', '9');
        }
    }

    /** Reads a tape into a text, up to the first token at which there is a fault. */
    private static final class Reader {
        private final Tokens tokens = new Tokens();
        private Text text = null;
        private int at = 0;
        private int clauseWord = NONE;
        int fault = 0;
        int place = NONE;

        void readAll(int[] tape, int length, Text into) {
            tokens.cut(tape, length);
            into.clear();
            text = into;
            at = 0;
            fault = 0;
            place = NONE;
            for (int number = 0; number <= CLAUSES && fault == 0 && token() != THE_END; number++) {
                readClause(number);
            }
        }

        private int token() {
            return at >= 0 && at < tokens.count ? tokens.token[at] : THE_END;
        }

        private int number() {
            return at >= 0 && at < tokens.count ? tokens.value[at] : 0;
        }

        private void step() {
            if (fault == 0 && at + 1 < tokens.count) {
                at++;
            }
        }

        private void fail(int newFault) {
            if (fault == 0) {
                fault = newFault;
                place = at >= 0 && at < tokens.count ? tokens.place[at] : 0;
            }
        }

        private void expect(int due) {
            if (token() == due) {
                step();
            } else {
                fail(CANT_STAND);
            }
        }

        private void emit(int code) {
            if (fault == 0 && text != null) {
                text.emit(code);
            }
        }

        private void readClause(int number) {
            clauseWord = token();
            if (text == null || !within(clauseWord, DRY, LAY)) {
                fail(CANT_STAND);
            } else if (text.clauseOf(clauseWord) != NONE) {
                fail(TWICE);
            } else if (number >= CLAUSES || !text.begin(clauseWord)) {
                fail(TOO_MANY);
            } else {
                step();
                if (clauseWord == LAY) {
                    readLay();
                } else {
                    readPart(clauseWord == BEETLE ? EITHER_LEVEL : SUM_LEVEL, 0);
                }
                expect(SEMICOLON);
            }
        }

        private void readLay() {
            readTold(0, KINDS - 1);
            expect(COMMA);
            readTold(1, 20);
            expect(COMMA);
            readTold(0, WETTEST);
            expect(ON);
            readTold(0, COLUMNS - 1);
        }

        private void readTold(int least, int most) {
            if (token() != NUMBER) {
                fail(CANT_STAND);
            } else if (!within(number(), least, most)) {
                fail(WRONG_NUMBER);
            } else {
                emit(number());
                step();
            }
        }

        private void readPart(int level, int open) {
            if (fault != 0 || open > MOST_OPEN) {
                return;
            }
            if (level == ASK_LEVEL) {
                readAsk(open);
            } else if (level >= ONE_LEVEL) {
                readOne(open);
            } else {
                readPart(level + 1, open);
                for (int i = 0; i < BYTES && fault == 0 && levelOf(token()) == level; i++) {
                    int deed = token();
                    step();
                    readPart(level + 1, open);
                    emit(DEED_CODE + deed);
                }
            }
        }

        private static int levelOf(int token) {
            switch (token) {
                case OR: return EITHER_LEVEL;
                case AND: return BOTH_LEVEL;
                case PLUS: case MINUS: return SUM_LEVEL;
                case TIMES: case OVER: return PRODUCT_LEVEL;
                default: return NONE;
            }
        }

        private void readAsk(int open) {
            if (token() == NOT) {
                if (opens(open)) {
                    readPart(ASK_LEVEL, open + 1);
                    emit(DEED_CODE + NOT);
                }
                return;
            }
            readPart(SUM_LEVEL, open);
            int deed = token();
            if (!within(deed, LESS, UNLIKE)) {
                fail(CANT_STAND);
                return;
            }
            step();
            readPart(SUM_LEVEL, open);
            emit(DEED_CODE + deed);
        }

        /** Steps over what opens a part, if it may be opened within so many that are open. */
        private boolean opens(int open) {
            if (open >= MOST_OPEN) {
                fail(TOO_DEEP);
                return false;
            }
            step();
            return true;
        }

        private void readOne(int open) {
            int token = token();
            if (token == NUMBER) {
                readTold(0, MOST_NUMBER);
            } else if (within(token, 0, NAMES - 1)) {
                readName(token);
            } else if (token == MIN || token == MAX) {
                readPair(token, open);
            } else if (token == OPEN) {
                if (opens(open)) {
                    readPart(SUM_LEVEL, open + 1);
                    expect(CLOSE);
                }
            } else if (token == MINUS) {
                if (opens(open)) {
                    readPart(ONE_LEVEL, open + 1);
                    emit(DEED_CODE + NEGATE);
                }
            } else {
                fail(CANT_STAND);
            }
        }

        private void readName(int name) {
            if (isNameOfClause(name)) {
                emit(NAME_CODE + name);
                step();
            } else {
                fail(WRONG_NAME);
            }
        }

        private boolean isNameOfClause(int name) {
            if (name == WEEK) {
                return true;
            }
            if (clauseWord == STAND) {
                return name >= WIDE;
            }
            return clauseWord == DRY ? name < WEEK : name <= SUNNY;
        }

        private void readPair(int deed, int open) {
            step();
            if (token() != OPEN) {
                fail(CANT_STAND);
            } else if (opens(open)) {
                readPart(SUM_LEVEL, open + 1);
                expect(COMMA);
                readPart(SUM_LEVEL, open + 1);
                expect(CLOSE);
                emit(DEED_CODE + deed);
            }
        }
    }

    /** How wood dries, settles, stands and warms: by the text that rules, or without one. */
    private static final class Laws {
        Text text;
        private final int[] names = new int[NAMES];
        // The deepest clause, eight ( within one another, needs thirty.
        private final int[] held = new int[40];

        Laws(Text text) {
            this.text = text;
        }

        int thickOf(Pile pile, int column, int z) {
            int clause = text.clauseOf(THICK);
            if (clause != NONE) {
                look(pile, column, z);
                return clamp(valueOf(clause), 1, 999);
            }
            int place = placeOf(column, z);
            int size = pile.size[place];
            int shrunk = pile.water[place] < 300 ? size * (300 - pile.water[place]) / 100 : 0;
            return 10 * size - shrunk;
        }

        int heatOf(Pile pile, int column, int z) {
            int clause = text.clauseOf(HEAT);
            if (clause != NONE) {
                look(pile, column, z);
                return clamp(valueOf(clause), 0, 9999);
            }
            int place = placeOf(column, z);
            return pile.size[place] * (2500 - pile.water[place]) / 100;
        }

        int worthOf(Pile pile, int column, int z) {
            int clause = text.clauseOf(TAKE);
            if (clause != NONE) {
                look(pile, column, z);
                return valueOf(clause);
            }
            return -pile.water[placeOf(column, z)];
        }

        int standOf(Pile pile) {
            int clause = text.clauseOf(STAND);
            if (clause == NONE) {
                return 10 * pile.wide + 20 * pile.posts + 15 * pile.crossed;
            }
            names[WIDE] = pile.wide;
            names[TALL] = pile.tallest();
            names[POSTS] = pile.posts;
            names[CROSSED] = pile.crossed;
            names[WEEK] = pile.week;
            return clamp(valueOf(clause), 0, 9999);
        }

        int heightOf(Pile pile, int column) {
            int height = 0;
            for (int z = 0; z < pile.count[column]; z++) {
                height += thickOf(pile, column, z);
            }
            return height;
        }

        int leanOf(Pile pile) {
            return heightOf(pile, pile.wide - 1) - heightOf(pile, 0);
        }

        int airIn(Pile pile) {
            int widths = 0;
            int highest = 0;
            long squares = 0;
            for (int column = 0; column < pile.wide; column++) {
                int widest = 0;
                int height = 0;
                for (int z = 0; z < pile.count[column]; z++) {
                    int thick = thickOf(pile, column, z);
                    widest = Math.max(widest, thick);
                    height += thick;
                    squares += thick * thick;
                }
                widths += widest;
                highest = Math.max(highest, height);
            }
            long box = (long) widths * highest;
            return box == 0 ? 0 : (int) (1000 - 785 * squares / box);
        }

        int beetlesIn(Pile pile) {
            int found = 0;
            for (int column = 0; column < pile.wide; column++) {
                for (int z = 0; z < pile.count[column]; z++) {
                    found += hasBeetle(pile, column, z) ? 1 : 0;
                }
            }
            return found;
        }

        private boolean hasBeetle(Pile pile, int column, int z) {
            look(pile, column, z);
            for (int i = 0; i < text.clauses; i++) {
                if (text.word[i] == BEETLE && valueOf(i) != 0) {
                    return true;
                }
            }
            return false;
        }

        void pass(Pile pile, Yard yard, int weather) {
            dryAll(pile, yard, weather);
            if (!pile.isFallen()) {
                int lean = heightOf(pile, pile.wide - 1) - heightOf(pile, 0);
                if (Math.abs(lean) > standOf(pile)) {
                    pile.fallen = pile.week;
                }
            }
        }

        /** A week by which it dries, but can't fall. */
        void dryAll(Pile pile, Yard yard, int weather) {
            if (!within(weather, 0, WEATHERS - 1)) {
                return;
            }
            names[WIND] = yard.wind[weather];
            names[SUN] = yard.sun[weather];
            names[RAIN] = yard.rain[weather];
            names[AIR] = yard.air[weather];
            // No split's drying asks for another's water, so each may dry in its place.
            for (int column = 0; column < pile.wide; column++) {
                for (int z = 0; z < pile.count[column]; z++) {
                    int place = placeOf(column, z);
                    pile.water[place] = clamp(pile.water[place] - driedBy(pile, column, z), 0, WETTEST);
                }
            }
            pile.week++;
        }

        private int driedBy(Pile pile, int column, int z) {
            int clause = text.clauseOf(DRY);
            if (clause != NONE) {
                look(pile, column, z);
                return valueOf(clause);
            }
            int place = placeOf(column, z);
            int moved = 2 + names[WIND] + names[SUN] - pile.besideOf(column, z);
            int less = (pile.water[place] - 10 * names[AIR]) * moved / 40;
            boolean rainedOn = pile.bark[place] == 0 && pile.isTop(column, z);
            return rainedOn ? less - 10 * names[RAIN] : less;
        }

        private void look(Pile pile, int column, int z) {
            int place = placeOf(column, z);
            names[WATER] = pile.water[place];
            names[SIZE] = pile.size[place];
            names[KIND] = pile.kind[place];
            names[BARK] = pile.bark[place];
            names[ABOVE_GROUND] = pile.isFallen() ? 0 : z;
            names[TOP] = pile.isTop(column, z) ? 1 : 0;
            names[BESIDE] = pile.besideOf(column, z);
            names[SUNNY] = pile.isSunny(column) ? 1 : 0;
            names[WEEK] = pile.week;
        }

        /** What a clause comes to by the names as they were looked at last. */
        private int valueOf(int clause) {
            int top = 0;
            for (int i = text.from[clause]; i < text.to[clause]; i++) {
                int code = text.code[i];
                int deed = code - DEED_CODE;
                if (deed < 0) {
                    if (top < held.length) {
                        held[top] = code < NAME_CODE ? code : nameValue(code - NAME_CODE);
                        top++;
                    }
                } else if (deed == NEGATE || deed == NOT) {
                    if (top >= 1) {
                        held[top - 1] = deed == NOT ? 1 - held[top - 1] : -held[top - 1];
                    }
                } else if (top >= 2) {
                    top--;
                    long exact = joined(deed, held[top - 1], held[top]);
                    held[top - 1] = (int) Math.max(-MOST_VALUE, Math.min(MOST_VALUE, exact));
                }
            }
            return held[0];
        }

        private int nameValue(int name) {
            return within(name, 0, NAMES - 1) ? names[name] : 0;
        }

        private static long joined(int deed, long a, long b) {
            switch (deed) {
                case PLUS: return a + b;
                case MINUS: return a - b;
                case TIMES: return a * b;
                case OVER: return b == 0 ? 0 : a / b;
                case MIN: return Math.min(a, b);
                case MAX: return Math.max(a, b);
                case LESS: return a < b ? 1 : 0;
                case AT_MOST: return a <= b ? 1 : 0;
                case MORE: return a > b ? 1 : 0;
                case AT_LEAST: return a >= b ? 1 : 0;
                case LIKE: return a == b ? 1 : 0;
                case UNLIKE: return a != b ? 1 : 0;
                case AND: return a & b;
                case OR: return a | b;
                default: return 0;
            }
        }

        private static int clamp(int value, int least, int most) {
            return Math.max(least, Math.min(most, value));
        }
    }

    /** Looks through all ways to take one split a week. */
    private static final class Search {
        private final Pile[] piles = new Pile[LONGEST_ORDER];
        private final int[] columns = new int[LONGEST_ORDER];
        final int[] best = new int[LONGEST_ORDER];
        int bestHeat = 0;
        int taken = 0;

        Search(int wide) {
            for (int i = 0; i < LONGEST_ORDER; i++) {
                piles[i] = new Pile(wide);
            }
        }

        void begin(Pile pile) {
            bestHeat = NONE;
            taken = 0;
            piles[0].become(pile);
        }

        private void tryFrom(int k, int heat, int n, Yard yard, Laws laws) {
            if (k >= n || k >= LONGEST_ORDER) {
                note(k, heat);
                return;
            }
            Pile pile = piles[k];
            for (int column = 0; column < pile.wide; column++) {
                int z = pile.count[column] - 1;
                if (z >= 0) {
                    columns[k] = column;
                    int more = laws.heatOf(pile, column, z);
                    // The last one's week warms nothing any more.
                    if (k + 1 < n && k + 1 < LONGEST_ORDER) {
                        piles[k + 1].become(pile);
                        piles[k + 1].remove(column, z);
                        laws.pass(piles[k + 1], yard, yard.plan[k]);
                    }
                    tryFrom(k + 1, heat + more, n, yard, laws);
                }
            }
        }

        private void note(int k, int heat) {
            // Columns are tried from the lowest on, so of like ones the first found stays.
            if (heat > bestHeat) {
                bestHeat = heat;
                taken = k;
                System.arraycopy(columns, 0, best, 0, LONGEST_ORDER);
            }
        }
    }
}
