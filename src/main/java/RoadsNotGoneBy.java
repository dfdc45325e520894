/** The larder of the roads not gone by: crossings, jars, lives, rules of texts, and what would be. */
public final class RoadsNotGoneBy {
    public static final int NONE = -1, BAD = -2, STATE = -3, FULL = -4;
    public static final long NO = -4611686018427387904L;

    private static final int NONE_SUCH = -1000, UNTOLD = -1002, NOT_NOW = -1003, UNTOLD_MISSING = -1011;
    private static final int MISSING = -11, OUTSIDE = -12, UNLIKE = -13, BELOW_NOTHING = -14;

    private static final int CROSSINGS = 12, JARS = 24, MOST_LIVES = 5, KINDS = 6, NUMBERS = 10;
    private static final int MOST = 999, MOST_MOOD = 99, MOST_TOLD = 99;
    private static final int MOST_TEXTS = 6, TAPE_SIZE = 160, PARTS = 3, MOST_OPEN = 5;
    private static final int SHEETS = 4, SHEET_SIZE = 40, TOLD_YEARS = 30;
    private static final int BYTES = 0, SHORTS = 1, INTS = 2;

    private static final int LIFE = 0, ENGINEER = 1, CLERGYMAN = 2, GIRL = 3, BISHOP = 4, WOMAN = 5;
    private static final int[] UNDER = {NONE, LIFE, LIFE, ENGINEER, CLERGYMAN, LIFE};

    private static final int TAKES = 0, PUTS = 1, FEELS = 2;
    private static final String FIRST_TEXT = "takes crossing + year ; puts 2 ; feels 5 ;";

    private final Texts texts = new Texts();
    private final Reader reader = new Reader(texts);
    private final World now = new World(texts);
    private final World thought = new World(texts);
    private final World kept = new World(texts);
    private final Sheet[] sheets = new Sheet[SHEETS];
    private final long[] ways = new long[CROSSINGS];
    private final long[] waysThen = new long[CROSSINGS];
    private final int[] costs = new int[CROSSINGS];
    private final int[] costsThen = new int[CROSSINGS];
    private boolean hasImage = false;

    public RoadsNotGoneBy() {
        for (int i = 0; i < sheets.length; i++) {
            sheets[i] = new Sheet();
        }
        for (int i = 0; i < FIRST_TEXT.length(); i++) {
            reader.take(FIRST_TEXT.charAt(i));
        }
        reader.readText();
    }

    // ---- crossings, jars, lives

    public int set(int what, int of, int v) {
        if (what == 2) {
            return setYear(v);
        }
        int[] row = rowOf(what);
        if (row == null || !within(of, sizeOf(what)) || !holds(what, v)) {
            return NONE_SUCH;
        }
        int was = item(row, of);
        putItem(row, of, v);
        return was;
    }

    public int life(int kind, int number, int at) {
        if (!within(kind, KINDS) || !within(number, NUMBERS) || !within(at, CROSSINGS)) {
            return BAD;
        }
        return now.comes(kind, number, at);
    }

    public int told(int of, int what) {
        switch (what) {
            case 2:
                return now.year;
            case 8:
                return now.has(of) ? now.takes(of) : NONE_SUCH;
            case 9:
                return now.has(of) ? now.putsBy(of) : NONE_SUCH;
            case 10:
                return within(of, CROSSINGS) ? now.whoAreAt(of) : NONE_SUCH;
            default:
                break;
        }
        int[] row = what == 7 ? now.kinds : rowOf(what);
        if (row == null || !within(of, sizeOf(what))) {
            return NONE_SUCH;
        }
        return item(row, of);
    }

    public int tastes(int one, int jar) {
        if (!now.has(one) || !within(jar, JARS)) {
            return NONE_SUCH;
        }
        return now.feels(one, jar);
    }

    // ---- texts

    public int feed(int letter) {
        if (letter < 0 || letter > 255) {
            return BAD;
        }
        return reader.take(letter);
    }

    public int text() {
        if (texts.many >= MOST_TEXTS) {
            return FULL;
        }
        int fault = reader.readText();
        return fault == NONE ? texts.many - 1 : -100 - fault;
    }

    public int force(int text) {
        if (!within(text, texts.many)) {
            return BAD;
        }
        int was = now.rule;
        now.rule = text;
        return was;
    }

    // ---- years, spoons

    public int year() {
        if (now.year >= MOST) {
            return STATE;
        }
        now.goYear(NONE);
        return now.inAllJars();
    }

    public int spoon(int one, int jar) {
        if (!now.has(one) || !within(jar, JARS)) {
            return NONE_SUCH;
        }
        if (item(now.jars, jar) < 1) {
            return NOT_NOW;
        }
        return now.eats(one, jar);
    }

    public int run(int one, int n, int what) {
        boolean ofJar = what >= 10 && what < 10 + JARS;
        if (!now.has(one) || n < 0 || n > 60 || !(ofJar || within(what, 3))) {
            return BAD;
        }
        thought.becomes(now);
        int seen = bit(item(thought.at, one));
        for (int i = 0; i < n; i++) {
            thought.goYear(NONE);
            seen |= bit(item(thought.at, one));
        }
        switch (what) {
            case 0:
                return item(thought.at, one);
            case 1:
                return seen;
            case 2:
                return thought.inAllJars();
            default:
                return item(thought.jars, what - 10);
        }
    }

    public int otherwise(int one, int n, int k) {
        if (!now.has(one) || n < 1 || n > 40 || !within(k, n)) {
            return BAD;
        }
        thought.becomes(now);
        for (int i = 0; i < n; i++) {
            thought.goYear(i == k ? one : NONE);
        }
        return item(thought.at, one);
    }

    // ---- what would be

    public long turns(int from, int to, int n) {
        if (!within(from, CROSSINGS) || !within(to, CROSSINGS) || n < 0 || n > 30) {
            return NO;
        }
        return waysOf(from, to, n);
    }

    public long likely(int from, int to, int n, int part) {
        if (!within(from, CROSSINGS) || !within(to, CROSSINGS) || n < 0 || n > 30 || !within(part, 2)) {
            return NO;
        }
        return lowest(waysOf(from, to, n), 1L << n, part);
    }

    public int fewest(int one, int to, int n) {
        if (!now.has(one) || !within(to, CROSSINGS) || n < 0 || n > 30) {
            return BAD;
        }
        thought.becomes(now);
        fill(costs, NONE);
        putItem(costs, item(now.at, one), 0);
        for (int i = 0; i < n; i++) {
            costAYear(one);
            thought.year++;
        }
        return item(costs, to);
    }

    public int meet(int one, int other) {
        if (!now.has(one) || !now.has(other) || one == other) {
            return BAD;
        }
        thought.becomes(now);
        for (int i = 0; i <= 60; i++) {
            if (item(thought.at, one) == item(thought.at, other)) {
                return i;
            }
            thought.goYear(NONE);
        }
        return NONE;
    }

    public int shut(int n, int what) {
        if (n < 0 || n > 40 || !within(what, 2)) {
            return BAD;
        }
        int best = NONE;
        int most = jarsBehind(n, NONE);
        for (int crossing = 0; crossing < CROSSINGS; crossing++) {
            int have = jarsBehind(n, crossing);
            if (have > most) {
                most = have;
                best = crossing;
            }
        }
        return what == 0 ? best : most;
    }

    public int best(int one, int what) {
        if (!now.has(one) || !within(what, 3)) {
            return NONE_SUCH;
        }
        if (what == 2) {
            return fullestJar();
        }
        int jar = sweetestJar(one);
        if (what == 0) {
            return jar;
        }
        return jar == NONE ? 0 : now.feels(one, jar);
    }

    // ---- lives that were told

    public int tells(int sheet, int one, int what) {
        Sheet told = sheetOf(sheet);
        if (told == null || !now.has(one) || !within(what, 8)) {
            return UNTOLD;
        }
        if (told.isMissing()) {
            return UNTOLD_MISSING;
        }
        if (told.size > TOLD_YEARS) {
            return NOT_NOW;
        }
        switch (what) {
            case 0:
                return firstOtherwise(told, one, what, 0);
            case 1:
                return toldBits(told, one, what, KINDS);
            case 2:
                return toldBits(told, one, what, NUMBERS);
            case 3:
                return toldBits(told, one, what, CROSSINGS);
            case 4:
            case 5:
                return toldMoods(told, one, what);
            case 6:
                return toldBits(told, one, what, texts.many);
            default:
                return toldBits(told, one, what, now.lives);
        }
    }

    public int film(int sheet, int one, int n) {
        Sheet filmed = sheetOf(sheet);
        if (filmed == null || !now.has(one) || n < 0 || n > TOLD_YEARS) {
            return BAD;
        }
        filmed.becomes(BYTES, n);
        thought.becomes(now);
        for (int i = 0; i < n; i++) {
            thought.goYear(NONE);
            filmed.lay(i, item(thought.at, one));
        }
        return n;
    }

    public int drawn(int seed, int one, int n) {
        if (!now.has(one) || n < 0 || n > 40) {
            return BAD;
        }
        return drawnTo(seed, one, n);
    }

    public long chance(int seed, int m, int one, int to, int part) {
        if (m < 1 || m > 40 || !now.has(one) || !within(to, CROSSINGS) || !within(part, 2)) {
            return NO;
        }
        long hits = 0;
        for (int i = 0; i < m; i++) {
            if (drawnTo(seed + i, one, 8) == to) {
                hits++;
            }
        }
        return lowest(hits, m, part);
    }

    public int image() {
        kept.becomes(now);
        hasImage = true;
        return now.lives;
    }

    public int back() {
        if (!hasImage) {
            return STATE;
        }
        now.becomes(kept);
        return now.lives;
    }

    public int count(int what) {
        switch (what) {
            case 0:
                return now.lives;
            case 1:
                return now.inAllJars();
            case 2:
                return now.year;
            case 3:
                return texts.many;
            case 4:
                return reader.size;
            case 5:
                return now.rule;
            default:
                return BAD;
        }
    }

    // ---- the host

    public int sheet(int sheet, int sort, int n) {
        Sheet made = sheetOf(sheet);
        if (made == null || sort < NONE || sort > INTS) {
            return BAD;
        }
        if (sort == NONE) {
            made.goes();
            return 1;
        }
        if (n > SHEET_SIZE) {
            return BAD;
        }
        if (n < 0) {
            return BELOW_NOTHING;
        }
        made.becomes(sort, n);
        return 1;
    }

    public int cell(int sheet, int i, int v) {
        Sheet written = sheetOf(sheet);
        if (written == null) {
            return BAD;
        }
        if (written.isMissing()) {
            return MISSING;
        }
        if (!within(i, written.size)) {
            return OUTSIDE;
        }
        written.lay(i, v);
        return 1;
    }

    public int copy(int sheet, int i, int other, int j, int n) {
        Sheet from = sheetOf(sheet);
        Sheet to = sheetOf(other);
        if (from == null || to == null) {
            return BAD;
        }
        if (from.isMissing() || to.isMissing()) {
            return MISSING;
        }
        if (from.sort != to.sort) {
            return UNLIKE;
        }
        if (from.hasSpan(i, n) && to.hasSpan(j, n)) {
            System.arraycopy(from.items, i, to.items, j, n);
            return n;
        }
        return OUTSIDE;
    }

    public int lives(int sheet, int sort, int from, int n) {
        Sheet read = sheetOf(sheet);
        if (read == null || !within(sort, INTS + 1) || n < 0 || n > MOST_LIVES) {
            return BAD;
        }
        if (read.isMissing()) {
            return MISSING;
        }
        if (read.sort != sort) {
            return UNLIKE;
        }
        int came = 0;
        for (int k = 0; k < n; k++) {
            int first = from + 3 * k;
            if (!read.hasSpan(first, 3)) {
                return OUTSIDE;
            }
            if (life(item(read.items, first), item(read.items, first + 1), item(read.items, first + 2)) >= 0) {
                came++;
            }
        }
        return came;
    }

    public int taken(int one, int k) {
        if (!within(k, KINDS)) {
            return BAD;
        }
        if (!now.has(one)) {
            return MISSING;
        }
        int kind = item(now.kinds, one);
        for (int i = 0; i < KINDS && kind != k && kind != LIFE; i++) {
            kind = item(UNDER, kind);
        }
        return kind == k ? item(now.numbers, one) : UNLIKE;
    }

    // ---- rows that set() and told() name by a number

    private int setYear(int v) {
        if (v < 0 || v > MOST) {
            return NONE_SUCH;
        }
        int was = now.year;
        now.year = v;
        return was;
    }

    private int[] rowOf(int what) {
        switch (what) {
            case 0:
                return now.to;
            case 1:
                return now.jars;
            case 3:
                return now.numbers;
            case 4:
                return now.at;
            case 5:
                return now.moods;
            case 6:
                return now.eaten;
            default:
                return null;
        }
    }

    private int sizeOf(int what) {
        return what == 0 || what == 1 ? JARS : now.lives;
    }

    private static boolean holds(int what, int v) {
        switch (what) {
            case 0:
            case 4:
                return within(v, CROSSINGS);
            case 1:
            case 6:
                return within(v, MOST + 1);
            case 3:
                return within(v, NUMBERS);
            case 5:
                return v >= -MOST_MOOD && v <= MOST_MOOD;
            default:
                return false;
        }
    }

    // ---- roads counted

    private long waysOf(int from, int to, int n) {
        for (int i = 0; i < ways.length; i++) {
            ways[i] = i == from ? 1 : 0;
        }
        for (int i = 0; i < n; i++) {
            wayAYear();
        }
        return within(to, ways.length) ? ways[to] : 0;
    }

    private void wayAYear() {
        for (int i = 0; i < waysThen.length; i++) {
            waysThen[i] = 0;
        }
        for (int jar = 0; jar < JARS; jar++) {
            int to = item(now.to, jar);
            if (within(to, waysThen.length) && within(jar / 2, ways.length)) {
                waysThen[to] += ways[jar / 2];
            }
        }
        for (int i = 0; i < ways.length && i < waysThen.length; i++) {
            ways[i] = waysThen[i];
        }
    }

    private void costAYear(int one) {
        fill(costsThen, NONE);
        for (int crossing = 0; crossing < CROSSINGS; crossing++) {
            int cost = item(costs, crossing);
            if (cost != NONE) {
                putItem(thought.at, one, crossing);
                int road = thought.takes(one);
                lessen(item(thought.to, 2 * crossing + road), cost);
                lessen(item(thought.to, 2 * crossing + 1 - road), cost + 1);
            }
        }
        copyRow(costsThen, costs);
    }

    private void lessen(int crossing, int cost) {
        int was = item(costsThen, crossing);
        if (was == NONE || cost < was) {
            putItem(costsThen, crossing, cost);
        }
    }

    private static long lowest(long above, long below, int part) {
        long common = commonDivisor(above, below);
        long asked = part == 0 ? above : below;
        return common == 0 ? asked : asked / common;
    }

    private static long commonDivisor(long one, long other) {
        long a = one;
        long b = other;
        for (int i = 0; i < 200 && b != 0; i++) {
            long rest = a % b;
            a = b;
            b = rest;
        }
        return a;
    }

    // ---- what would be, one by one

    private int jarsBehind(int n, int closed) {
        thought.becomes(now);
        if (closed != NONE) {
            thought.closes(closed);
        }
        for (int i = 0; i < n; i++) {
            thought.goYear(NONE);
        }
        return thought.inAllJars();
    }

    private int sweetestJar(int one) {
        int best = NONE;
        int most = 0;
        for (int jar = 0; jar < JARS; jar++) {
            if (item(now.jars, jar) > 0) {
                int feels = now.feels(one, jar);
                if (best == NONE || feels > most) {
                    best = jar;
                    most = feels;
                }
            }
        }
        return best;
    }

    private int fullestJar() {
        int best = NONE;
        int most = 0;
        for (int jar = 0; jar < JARS; jar++) {
            int has = item(now.jars, jar);
            if (has > most) {
                best = jar;
                most = has;
            }
        }
        return best;
    }

    private int drawnTo(int seed, int one, int n) {
        int at = item(now.at, one);
        int z = seed;
        for (int i = 0; i < n; i++) {
            z = z * 1103515245 + 12345;
            at = item(now.to, 2 * at + (z >>> 9) % 2);
        }
        return at;
    }

    // ---- what was told, read back

    private int toldBits(Sheet told, int one, int what, int many) {
        int bits = 0;
        for (int v = 0; v < many; v++) {
            if (firstOtherwise(told, one, what, v) == NONE) {
                bits |= bit(v);
            }
        }
        return bits;
    }

    private int toldMoods(Sheet told, int one, int what) {
        boolean named = texts.hasStep(now.rule, Texts.MOOD);
        boolean so = false;
        int many = 0;
        int least = -100;
        for (int mood = -MOST_MOOD; mood <= MOST_MOOD; mood++) {
            // A rule that doesn't name MOOD leaves only a GIRL's look at whether it is below 0.
            if (named || mood == -MOST_MOOD || mood == 0) {
                so = firstOtherwise(told, one, what, mood) == NONE;
            }
            if (so) {
                least = many == 0 ? mood : least;
                many++;
            }
        }
        return what == 4 ? many : least;
    }

    private int firstOtherwise(Sheet told, int one, int what, int v) {
        thought.becomes(now);
        int who = suppose(one, what, v);
        for (int i = 0; i < told.size && i < told.items.length; i++) {
            thought.goYear(NONE);
            if (item(thought.at, who) != told.items[i]) {
                return i;
            }
        }
        return NONE;
    }

    // Answers of whom it is asked then: another one only where LIVES are gone through.
    private int suppose(int one, int what, int v) {
        switch (what) {
            case 1:
                putItem(thought.kinds, one, v);
                return one;
            case 2:
                putItem(thought.numbers, one, v);
                return one;
            case 3:
                putItem(thought.at, one, v);
                return one;
            case 4:
            case 5:
                putItem(thought.moods, one, v);
                return one;
            case 6:
                thought.rule = v;
                return one;
            case 7:
                return v;
            default:
                return one;
        }
    }

    // ---- small things

    private Sheet sheetOf(int i) {
        return within(i, sheets.length) ? sheets[i] : null;
    }

    private static boolean within(int i, int size) {
        return i >= 0 && i < size;
    }

    private static int held(int v, int least, int most) {
        return Math.max(least, Math.min(most, v));
    }

    private static int bit(int i) {
        return within(i, 31) ? 1 << i : 0;
    }

    // What stands outside a row reads as 0, so that no index ever reaches the machine untested.
    private static int item(int[] row, int i) {
        return i >= 0 && i < row.length ? row[i] : 0;
    }

    private static void putItem(int[] row, int i, int v) {
        if (i >= 0 && i < row.length) {
            row[i] = v;
        }
    }

    private static void fill(int[] row, int v) {
        for (int i = 0; i < row.length; i++) {
            row[i] = v;
        }
    }

    private static void copyRow(int[] from, int[] to) {
        for (int i = 0; i < from.length && i < to.length; i++) {
            to[i] = from[i];
        }
    }

    /** All that an image keeps, and how it goes on by the year and by the spoon. */
    private static final class World {
        final int[] to = new int[JARS];
        final int[] jars = new int[JARS];
        final int[] kinds = new int[MOST_LIVES];
        final int[] numbers = new int[MOST_LIVES];
        final int[] at = new int[MOST_LIVES];
        final int[] moods = new int[MOST_LIVES];
        final int[] eaten = new int[MOST_LIVES];
        final int[] named = new int[6];
        final Texts texts;
        int lives = 0;
        int year = 0;
        int rule = 0;

        World(Texts all) {
            texts = all;
            for (int jar = 0; jar < to.length; jar++) {
                to[jar] = (jar / 2 + 1 + jar % 2) % CROSSINGS;
            }
        }

        void becomes(World other) {
            copyRow(other.to, to);
            copyRow(other.jars, jars);
            copyRow(other.kinds, kinds);
            copyRow(other.numbers, numbers);
            copyRow(other.at, at);
            copyRow(other.moods, moods);
            copyRow(other.eaten, eaten);
            lives = other.lives;
            year = other.year;
            rule = other.rule;
        }

        boolean has(int one) {
            return one >= 0 && one < lives;
        }

        int comes(int kind, int number, int crossing) {
            if (lives >= MOST_LIVES) {
                return FULL;
            }
            int one = lives;
            putItem(kinds, one, kind);
            putItem(numbers, one, number);
            putItem(at, one, crossing);
            putItem(moods, one, 0);
            putItem(eaten, one, 0);
            lives++;
            return one;
        }

        int whoAreAt(int crossing) {
            int who = 0;
            for (int one = 0; one < lives; one++) {
                if (item(at, one) == crossing) {
                    who |= bit(one);
                }
            }
            return who;
        }

        int inAllJars() {
            int all = 0;
            for (int jar = 0; jar < jars.length; jar++) {
                all += jars[jar];
            }
            return all;
        }

        void closes(int crossing) {
            for (int i = 0; i < to.length; i++) {
                if (to[i] == crossing) {
                    to[i] = (crossing + 1) % CROSSINGS;
                }
            }
        }

        /** A year; the one that is turned, if any, goes the other way. */
        void goYear(int turned) {
            for (int one = 0; one < lives; one++) {
                int road = one == turned ? 1 - takes(one) : takes(one);
                int more = putsBy(one);
                int jarOfGone = 2 * item(at, one) + road;
                int jarOfOther = 2 * item(at, one) + 1 - road;
                putItem(jars, jarOfOther, Math.min(MOST, item(jars, jarOfOther) + more));
                putItem(at, one, item(to, jarOfGone));
            }
            year++;
        }

        int takes(int one) {
            int kind = item(kinds, one);
            int crossing = item(at, one);
            if (kind == WOMAN) {
                return item(numbers, one) % 2;
            }
            if (kind == BISHOP && year % 3 == 0) {
                return 0;
            }
            if (kind == CLERGYMAN || kind == BISHOP) {
                return item(jars, 2 * crossing + 1) < item(jars, 2 * crossing) ? 1 : 0;
            }
            int road = texts.tell(rule, TAKES, namesOf(one, bothJars(crossing))) % 2 == 0 ? 0 : 1;
            if (kind != LIFE && crossing == item(numbers, one)) {
                road = 1;
            }
            return kind == GIRL && item(moods, one) < 0 ? 1 - road : road;
        }

        int putsBy(int one) {
            int kind = item(kinds, one);
            if (kind == WOMAN) {
                return 0;
            }
            int v = Math.max(0, texts.tell(rule, PUTS, namesOf(one, bothJars(item(at, one)))));
            switch (kind) {
                case ENGINEER:
                    v = 2 * v;
                    break;
                case CLERGYMAN:
                    v = v + 1;
                    break;
                case GIRL:
                    v = 2 * v + item(numbers, one);
                    break;
                case BISHOP:
                    v = (v + 1) / 2;
                    break;
                default:
                    break;
            }
            return held(v, 0, MOST_TOLD);
        }

        int feels(int one, int jar) {
            int v = texts.tell(rule, FEELS, namesOf(one, item(jars, jar)));
            int turned = item(eaten, one) >= 3 ? -v : v;
            switch (item(kinds, one)) {
                case ENGINEER:
                    return Math.max(0, v);
                case CLERGYMAN:
                    return turned;
                case GIRL:
                    return 2 * Math.max(0, v);
                case BISHOP:
                    return turned + item(numbers, one);
                case WOMAN:
                    return 0;
                default:
                    return v;
            }
        }

        int eats(int one, int jar) {
            int mood = held(item(moods, one) + feels(one, jar), -MOST_MOOD, MOST_MOOD);
            putItem(moods, one, mood);
            putItem(eaten, one, Math.min(MOST, item(eaten, one) + 1));
            putItem(jars, jar, item(jars, jar) - 1);
            return mood;
        }

        private int bothJars(int crossing) {
            return item(jars, 2 * crossing) + item(jars, 2 * crossing + 1);
        }

        private int[] namesOf(int one, int jar) {
            putItem(named, 0, item(at, one));
            putItem(named, 1, jar);
            putItem(named, 2, item(numbers, one));
            putItem(named, 3, year);
            putItem(named, 4, item(moods, one));
            putItem(named, 5, item(eaten, one));
            return named;
        }
    }

    /** The texts, each as three rows of steps: a number from 0 on is laid on the stack, one below is a deed. */
    private static final class Texts {
        static final int FIRST_NAME = -1, MOOD = -5, LAST_NAME = -6;
        static final int LESS_ONE = -7, NOT = -8;
        static final int OR = -9, AND = -10, BELOW = -11, LIKE = -12, PLUS = -13, MINUS = -14, TIMES = -15;

        final int[] steps = new int[MOST_TEXTS * TAPE_SIZE];
        final int[] bounds = new int[MOST_TEXTS * (PARTS + 1)];
        final int[] stack = new int[TAPE_SIZE];
        int many = 0;
        int written = 0;

        void begin() {
            written = many * TAPE_SIZE;
            putItem(bounds, many * (PARTS + 1), written);
        }

        void write(int step) {
            putItem(steps, written, step);
            written++;
        }

        void endPart(int part) {
            putItem(bounds, many * (PARTS + 1) + part + 1, written);
        }

        /** What a part of a text tells of the named things, held. */
        int tell(int text, int part, int[] named) {
            int from = item(bounds, text * (PARTS + 1) + part);
            int till = item(bounds, text * (PARTS + 1) + part + 1);
            int top = 0;
            for (int i = from; i >= 0 && i < till && i < steps.length; i++) {
                int step = steps[i];
                if (step >= LAST_NAME) {
                    putItem(stack, top, step >= 0 ? step : item(named, FIRST_NAME - step));
                    top++;
                } else if (step == LESS_ONE) {
                    putItem(stack, top - 1, -item(stack, top - 1));
                } else if (step == NOT) {
                    putItem(stack, top - 1, item(stack, top - 1) == 0 ? 1 : 0);
                } else {
                    top--;
                    putItem(stack, top - 1, joined(step, item(stack, top - 1), item(stack, top)));
                }
            }
            return held(item(stack, 0), -MOST_TOLD, MOST_TOLD);
        }

        /** Whether takes or puts of a text have a step. */
        boolean hasStep(int text, int step) {
            int from = item(bounds, text * (PARTS + 1));
            int till = item(bounds, text * (PARTS + 1) + FEELS);
            for (int i = from; i >= 0 && i < till && i < steps.length; i++) {
                if (steps[i] == step) {
                    return true;
                }
            }
            return false;
        }

        private static int joined(int step, int a, int b) {
            switch (step) {
                case OR:
                    return a != 0 || b != 0 ? 1 : 0;
                case AND:
                    return a != 0 && b != 0 ? 1 : 0;
                case BELOW:
                    return a < b ? 1 : 0;
                case LIKE:
                    return a == b ? 1 : 0;
                case PLUS:
                    return a + b;
                case MINUS:
                    return a - b;
                default:
                    return a * b;
            }
        }
    }

    /** The tape, its tokens, and the reading of them into a text. */
    private static final class Reader {
        static final int END = 0, FAULTY = 1, NUMBER = 2;
        static final int KEY_TAKES = 3, KEY_OR = 6, KEY_AND = 7, KEY_NOT = 8, NAME_FIRST = 10, NAME_LAST = 15;

        final int[] tape = new int[TAPE_SIZE];
        final int[] sorts = new int[TAPE_SIZE + 1];
        final int[] values = new int[TAPE_SIZE + 1];
        final int[] places = new int[TAPE_SIZE + 1];
        int size = 0;
        int tokens = 0;
        int next = 0;
        int fault = NONE;
        final Texts texts;

        Reader(Texts all) {
            texts = all;
        }

        int take(int letter) {
            if (size >= TAPE_SIZE) {
                return FULL;
            }
            putItem(tape, size, letter);
            size++;
            return size;
        }

        /** Empties the tape; answers the place of the fault, or NONE if a text more stands. */
        int readText() {
            cut();
            size = 0;
            next = 0;
            fault = NONE;
            texts.begin();
            for (int part = 0; part < PARTS; part++) {
                must(KEY_TAKES + part);
                readOr(0);
                must(';');
                texts.endPart(part);
            }
            must(END);
            if (fault == NONE) {
                texts.many++;
            }
            return fault;
        }

        // Nothing behind a faulty token is ever read, so the cutting ends with it.
        private void cut() {
            tokens = 0;
            int place = 0;
            boolean goes = true;
            for (int i = 0; i < TAPE_SIZE && goes; i++) {
                while (place < size && isBlank(item(tape, place))) {
                    place++;
                }
                goes = place < size;
                if (goes) {
                    int till = tokenEnd(place);
                    int sort = sortOf(place, till);
                    add(sort, sort == NUMBER ? numberOf(place, till) : 0, place);
                    place = till;
                    goes = sort != FAULTY;
                }
            }
            add(END, 0, size);
        }

        private void add(int sort, int value, int place) {
            putItem(sorts, tokens, sort);
            putItem(values, tokens, value);
            putItem(places, tokens, place);
            tokens++;
        }

        private int tokenEnd(int place) {
            int first = item(tape, place);
            int till = place + 1;
            while (till < size && (isLetter(first) && isLetter(item(tape, till))
                    || isDigit(first) && isDigit(item(tape, till)))) {
                till++;
            }
            return till;
        }

        private int sortOf(int place, int till) {
            int first = item(tape, place);
            if (isLetter(first)) {
                return wordSort(place, till);
            }
            if (isDigit(first)) {
                return till - place > 4 ? FAULTY : NUMBER;
            }
            switch (first) {
                case '(':
                case ')':
                case ';':
                case '+':
                case '-':
                case '*':
                case '<':
                case '=':
                    return first;
                default:
                    return FAULTY;
            }
        }

        private int wordSort(int place, int till) {
            int sort = spells("takes", place, till) ? KEY_TAKES
                    : spells("puts", place, till) ? KEY_TAKES + PUTS
                    : spells("feels", place, till) ? KEY_TAKES + FEELS
                    : spells("or", place, till) ? KEY_OR
                    : spells("and", place, till) ? KEY_AND
                    : spells("not", place, till) ? KEY_NOT : FAULTY;
            if (sort != FAULTY) {
                return sort;
            }
            return spells("crossing", place, till) ? NAME_FIRST
                    : spells("jar", place, till) ? NAME_FIRST + 1
                    : spells("number", place, till) ? NAME_FIRST + 2
                    : spells("year", place, till) ? NAME_FIRST + 3
                    : spells("mood", place, till) ? NAME_FIRST + 4
                    : spells("eaten", place, till) ? NAME_LAST : FAULTY;
        }

        private boolean spells(String word, int place, int till) {
            if (till - place != word.length()) {
                return false;
            }
            for (int i = 0; i < word.length(); i++) {
                if (item(tape, place + i) != word.charAt(i)) {
                    return false;
                }
            }
            return true;
        }

        private int numberOf(int place, int till) {
            int number = 0;
            for (int i = place; i < till; i++) {
                number = number * 10 + item(tape, i) - '0';
            }
            return number;
        }

        private static boolean isBlank(int letter) {
            return letter == 32 || letter == 10;
        }

        private static boolean isLetter(int letter) {
            return letter >= 'a' && letter <= 'z';
        }

        private static boolean isDigit(int letter) {
            return letter >= '0' && letter <= '9';
        }

        // Behind a fault every token is a faulty one, so that all reading ends.
        private int token() {
            return fault == NONE ? item(sorts, next) : FAULTY;
        }

        private boolean may(int sort) {
            if (token() != sort) {
                return false;
            }
            next++;
            return true;
        }

        private void must(int sort) {
            if (!may(sort)) {
                fails(next);
            }
        }

        private void fails(int token) {
            if (fault == NONE) {
                fault = item(places, token);
            }
        }

        // open: how many of ( , not and - stand open
        private void readOr(int open) {
            readAnd(open);
            for (int i = 0; i < TAPE_SIZE && may(KEY_OR); i++) {
                readAnd(open);
                texts.write(Texts.OR);
            }
        }

        private void readAnd(int open) {
            readNot(open);
            for (int i = 0; i < TAPE_SIZE && may(KEY_AND); i++) {
                readNot(open);
                texts.write(Texts.AND);
            }
        }

        private void readNot(int open) {
            if (token() == KEY_NOT && open < MOST_OPEN) {
                next++;
                readNot(open + 1);
                texts.write(Texts.NOT);
                return;
            }
            readSum(open);
            int step = token() == '<' ? Texts.BELOW : Texts.LIKE;
            if (may('<') || may('=')) {
                readSum(open);
                texts.write(step);
            }
        }

        private void readSum(int open) {
            readTerm(open);
            for (int i = 0; i < TAPE_SIZE && (token() == '+' || token() == '-'); i++) {
                int step = token() == '+' ? Texts.PLUS : Texts.MINUS;
                next++;
                readTerm(open);
                texts.write(step);
            }
        }

        private void readTerm(int open) {
            readOne(open);
            for (int i = 0; i < TAPE_SIZE && may('*'); i++) {
                readOne(open);
                texts.write(Texts.TIMES);
            }
        }

        private void readOne(int open) {
            int sort = token();
            if ((sort == '(' || sort == '-') && open < MOST_OPEN) {
                next++;
                readOpened(sort, open + 1);
            } else if (sort == NUMBER) {
                texts.write(item(values, next));
                next++;
            } else if (sort >= NAME_FIRST && sort <= NAME_LAST) {
                texts.write(Texts.FIRST_NAME - (sort - NAME_FIRST));
                next++;
            } else {
                fails(next);
            }
        }

        private void readOpened(int sort, int open) {
            if (sort == '(') {
                readOr(open);
                must(')');
            } else {
                readOne(open);
                texts.write(Texts.LESS_ONE);
            }
        }
    }

    /** A row of numbers of a sort, or a missing one. */
    private static final class Sheet {
        final int[] items = new int[SHEET_SIZE];
        int sort = NONE;
        int size = 0;

        boolean isMissing() {
            return sort == NONE;
        }

        void goes() {
            sort = NONE;
            size = 0;
        }

        void becomes(int newSort, int newSize) {
            sort = newSort;
            size = newSize;
            fill(items, 0);
        }

        void lay(int i, int v) {
            putItem(items, i, sort == BYTES ? (byte) v : sort == SHORTS ? (short) v : v);
        }

        boolean hasSpan(int i, int n) {
            return n >= 0 && n <= size && size <= items.length && i >= 0 && i <= size - n;
        }
    }
}
