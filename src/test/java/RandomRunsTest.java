import java.util.ArrayList;
import java.util.HashMap;
import java.util.List;
import java.util.Map;
import java.util.function.ToIntFunction;

/** Long runs of calls by lot (the same each time), each answer laid beside that of a second reading of the document. */
public final class RandomRunsTest {
    private static long lot = 20261119L;

    private static int lot(int n) {
        lot = lot * 6364136223846793005L + 1442695040888963407L;
        return (int) ((lot >>> 33) % n);
    }

    public static void main(String[] args) {
        int wrong = 0;
        for (int run = 0; run < 1500 && wrong < 10; run++) {
            RoadsNotGoneBy x = new RoadsNotGoneBy();
            Model m = new Model();
            boolean wild = run % 3 == 0;
            List<String> calls = new ArrayList<>();
            int n = 0;
            for (int i = 0; i < run % 6; i++, n++) {
                wrong += laidBeside(x, m, calls, run, 2, null);
            }
            while (n < 400) {
                if (lot(12) == 0) {
                    String t = madeText();
                    for (int i = 0; i < t.length() && n < 400; i++, n++) {
                        if (x.feed(t.charAt(i)) != m.feed(t.charAt(i))) {
                            wrong++;
                        }
                    }
                    calls.add("feeds " + t);
                    wrong += laidBeside(x, m, calls, run, 0, null);
                    n++;
                } else {
                    int[] a = new int[5];
                    for (int i = 0; i < 5; i++) {
                        a[i] = wild && lot(6) == 0 ? WILD[lot(WILD.length)] : 0;
                    }
                    wrong += laidBeside(x, m, calls, run, 1 + lot(29), wild && lot(3) == 0 ? a : null);
                    n++;
                }
                if (wrong > 10) {
                    break;
                }
            }
        }
        System.out.println(wrong == 0 ? "all runs are as the second reading" : wrong + " answers are unlike");
        if (wrong != 0) {
            System.exit(1);
        }
    }

    private static final int[] WILD = {-1, 0, 1, -2, 2, 3, 4, 5, 6, 9, 10, 11, 12, 23, 24, 30, 31, 33, 34, 40, 41, 60, 61, 99, 100, 160,
        255, 256, 999, 1000, -99, -100, 65535, Integer.MAX_VALUE, Integer.MIN_VALUE, Integer.MAX_VALUE - 1};

    // Words and signs by lot, mostly a grammatical text.
    private static String madeText() {
        if (lot(3) == 0) {
            StringBuilder b = new StringBuilder();
            String[] bits = {"takes ", "puts ", "feels ", ";", "(", ")", "not ", "-", "1", "12345", "year", "jar ", "<", "=", "or ", "and ",
                "@", "Q", "\n", "takes 1;", "puts 2;", "feels 3;", "99 ", "+", "*"};
            int many = lot(14);
            for (int i = 0; i < many; i++) {
                b.append(bits[lot(bits.length)]);
            }
            return (lot(2) == 0 ? "takes 1;puts " : "") + b;
        }
        String t = "takes " + or(2) + ";puts " + or(2) + ";feels " + or(2) + ";";
        if (lot(6) == 0) {
            int cut = lot(t.length());
            String other = lot(2) == 0 ? "" : String.valueOf((char) (32 + lot(96)));
            t = t.substring(0, cut) + other + t.substring(cut + lot(2));
        }
        return t;
    }

    private static String or(int deep) {
        return and(deep) + (lot(8) == 0 ? " or " + and(deep) : "");
    }

    private static String and(int deep) {
        return not(deep) + (lot(8) == 0 ? " and " + not(deep) : "");
    }

    private static String not(int deep) {
        int which = lot(8);
        return which == 0 ? "not " + not(deep) : sum(deep) + (which == 1 ? "<" + sum(deep) : which == 2 ? "=" + sum(deep) : "");
    }

    private static String sum(int deep) {
        int which = lot(4);
        return term(deep) + (which == 0 ? "+" + term(deep) : which == 1 ? "-" + term(deep) : "");
    }

    private static String term(int deep) {
        return one(deep) + (lot(5) == 0 ? "*" + one(deep) : "");
    }

    private static String one(int deep) {
        String[] names = {"crossing", "jar", "number", "year", "mood", "eaten"};
        int which = lot(8);
        if (deep > 0 && which == 0) {
            return "(" + or(deep - 1) + ")";
        }
        return which == 1 ? "-" + one(deep) : which < 5 ? names[lot(6)] : "" + (lot(3) == 0 ? lot(10000) : lot(12));
    }

    private static int laidBeside(RoadsNotGoneBy x, Model m, List<String> calls, int run, int which, int[] given) {
        int[] a = given != null ? given : usual(which, m);
        if (given != null) {
            int[] u = usual(which, m);
            for (int i = 0; i < 5; i++) {
                a[i] = a[i] == 0 && lot(2) == 0 ? u[i] : a[i];
            }
        }
        long got;
        long want;
        String name = NAMES[which];
        try {
            got = ofClass(x, which, a);
        } catch (RuntimeException e) {
            System.out.println(name + java.util.Arrays.toString(a) + " threw " + e);
            return 1;
        }
        want = ofModel(m, which, a);
        calls.add(name + java.util.Arrays.toString(a) + " = " + got);
        if (got != want) {
            System.out.println("run " + run + ": " + name + java.util.Arrays.toString(a) + " answered " + got + ", due is " + want);
            System.out.println("  behind " + calls.subList(Math.max(0, calls.size() - 30), calls.size()));
            return 1;
        }
        return 0;
    }

    private static final String[] NAMES = {"text", "set", "life", "told", "tastes", "feed", "force", "year", "spoon", "run", "otherwise",
        "turns", "likely", "fewest", "meet", "shut", "best", "tells", "film", "drawn", "chance", "image", "back", "count", "sheet", "cell",
        "copy", "lives", "taken", "set"};

    // Arguments that mostly stand, some just outside.
    private static int[] usual(int which, Model m) {
        int life = lot(12) == 0 ? lot(7) - 1 : lot(Math.max(1, m.lives.size()));
        int crossing = lot(30) == 0 ? 12 : lot(12);
        int sheet = lot(30) == 0 ? 4 : lot(4);
        switch (which) {
            case 1:
            case 29:
                switch (lot(7)) {
                    case 0: return new int[] {0, lot(25), lot(12), 0, 0};
                    case 1: return new int[] {1, lot(25), lot(3) == 0 ? 990 + lot(11) : lot(30), 0, 0};
                    case 2: return new int[] {2, 0, lot(4) == 0 ? 990 + lot(11) : lot(20), 0, 0};
                    case 3: return new int[] {3, life, lot(11), 0, 0};
                    case 4: return new int[] {4, life, crossing, 0, 0};
                    case 5: return new int[] {5, life, lot(203) - 101, 0, 0};
                    default: return new int[] {6, life, lot(3) == 0 ? 998 + lot(3) : lot(6), 0, 0};
                }
            case 2: return new int[] {lot(20) == 0 ? 6 : lot(6), lot(20) == 0 ? 10 : lot(10), crossing, 0, 0};
            case 3: return lot(2) == 0 ? new int[] {life, 3 + lot(7), 0, 0, 0} : new int[] {lot(26) - 1, lot(13) - 1, 0, 0, 0};
            case 4:
            case 8: return new int[] {life, lot(25), 0, 0, 0};
            case 5: return new int[] {lot(258) - 1, 0, 0, 0, 0};
            case 6: return new int[] {lot(7), 0, 0, 0, 0};
            case 9: return new int[] {life, lot(3) == 0 ? lot(63) - 1 : lot(8), lot(2) == 0 ? lot(3) : 8 + lot(27), 0, 0};
            case 10: return new int[] {life, lot(3) == 0 ? lot(43) - 1 : 1 + lot(8), lot(8), 0, 0};
            case 11: return new int[] {crossing, lot(12), lot(32), 0, 0};
            case 12: return new int[] {crossing, lot(12), lot(32), lot(2), 0};
            case 13: return new int[] {life, crossing, lot(2) == 0 ? lot(32) : lot(6), 0, 0};
            case 14: return new int[] {life, lot(5), 0, 0, 0};
            case 15: return new int[] {lot(42), lot(2), 0, 0, 0};
            case 16: return new int[] {life, lot(4), 0, 0, 0};
            case 17: return new int[] {sheet, life, lot(8), 0, 0};
            case 18: return new int[] {sheet, life, lot(10) == 0 ? lot(33) - 1 : lot(6), 0, 0};
            case 19: return new int[] {lot(1000000) * 4001, life, lot(42), 0, 0};
            case 20: return new int[] {lot(1000000) * 4001, 1 + lot(41), life, crossing, lot(2)};
            case 23: return new int[] {lot(7), 0, 0, 0, 0};
            case 24: return new int[] {sheet, lot(10) == 0 ? -1 : lot(3), lot(10) == 0 ? lot(44) - 2 : 1 + lot(5), 0, 0};
            case 25: return new int[] {sheet, lot(6), lot(10) == 0 ? lot(200000) - 70000 : lot(12), 0, 0};
            case 26: return new int[] {sheet, lot(4), lot(4), lot(4), lot(4)};
            case 27: return new int[] {sheet, lot(3), lot(6), lot(3), 0};
            case 28: return new int[] {life, lot(6), 0, 0, 0};
            default: return new int[5];
        }
    }

    private static long ofClass(RoadsNotGoneBy x, int which, int[] a) {
        switch (which) {
            case 0: return x.text();
            case 1: case 29: return x.set(a[0], a[1], a[2]);
            case 2: return x.life(a[0], a[1], a[2]);
            case 3: return x.told(a[0], a[1]);
            case 4: return x.tastes(a[0], a[1]);
            case 5: return x.feed(a[0]);
            case 6: return x.force(a[0]);
            case 7: return x.year();
            case 8: return x.spoon(a[0], a[1]);
            case 9: return x.run(a[0], a[1], a[2]);
            case 10: return x.otherwise(a[0], a[1], a[2]);
            case 11: return x.turns(a[0], a[1], a[2]);
            case 12: return x.likely(a[0], a[1], a[2], a[3]);
            case 13: return x.fewest(a[0], a[1], a[2]);
            case 14: return x.meet(a[0], a[1]);
            case 15: return x.shut(a[0], a[1]);
            case 16: return x.best(a[0], a[1]);
            case 17: return x.tells(a[0], a[1], a[2]);
            case 18: return x.film(a[0], a[1], a[2]);
            case 19: return x.drawn(a[0], a[1], a[2]);
            case 20: return x.chance(a[0], a[1], a[2], a[3], a[4]);
            case 21: return x.image();
            case 22: return x.back();
            case 23: return x.count(a[0]);
            case 24: return x.sheet(a[0], a[1], a[2]);
            case 25: return x.cell(a[0], a[1], a[2]);
            case 26: return x.copy(a[0], a[1], a[2], a[3], a[4]);
            case 27: return x.lives(a[0], a[1], a[2], a[3]);
            default: return x.taken(a[0], a[1]);
        }
    }

    private static long ofModel(Model m, int which, int[] a) {
        switch (which) {
            case 0: return m.text();
            case 1: case 29: return m.set(a[0], a[1], a[2]);
            case 2: return m.life(a[0], a[1], a[2]);
            case 3: return m.told(a[0], a[1]);
            case 4: return m.tastes(a[0], a[1]);
            case 5: return m.feed(a[0]);
            case 6: return m.force(a[0]);
            case 7: return m.year();
            case 8: return m.spoon(a[0], a[1]);
            case 9: return m.run(a[0], a[1], a[2]);
            case 10: return m.otherwise(a[0], a[1], a[2]);
            case 11: return m.turns(a[0], a[1], a[2]);
            case 12: return m.likely(a[0], a[1], a[2], a[3]);
            case 13: return m.fewest(a[0], a[1], a[2]);
            case 14: return m.meet(a[0], a[1]);
            case 15: return m.shut(a[0], a[1]);
            case 16: return m.best(a[0], a[1]);
            case 17: return m.tells(a[0], a[1], a[2]);
            case 18: return m.film(a[0], a[1], a[2]);
            case 19: return m.drawn(a[0], a[1], a[2]);
            case 20: return m.chance(a[0], a[1], a[2], a[3], a[4]);
            case 21: return m.image();
            case 22: return m.back();
            case 23: return m.count(a[0]);
            case 24: return m.sheet(a[0], a[1], a[2]);
            case 25: return m.cell(a[0], a[1], a[2]);
            case 26: return m.copy(a[0], a[1], a[2], a[3], a[4]);
            case 27: return m.lives(a[0], a[1], a[2], a[3]);
            default: return m.taken(a[0], a[1]);
        }
    }

    /** A life as the second reading has it. */
    private static final class One {
        String kind;
        int number;
        int at;
        int mood;
        int eaten;

        One like() {
            One o = new One();
            o.kind = kind;
            o.number = number;
            o.at = at;
            o.mood = mood;
            o.eaten = eaten;
            return o;
        }
    }

    /** What an E is told of. */
    private static final class Of {
        One one;
        int jar;
        int year;
    }

    private interface Told {
        int of(Of o);
    }

    private static final class Fault extends RuntimeException {
        private static final long serialVersionUID = 1L;
        final int place;

        Fault(int at) {
            super("fault", null, false, false);
            place = at;
        }
    }

    /** Reads a text byte by byte, without tokens laid ahead. */
    private static final class Parse {
        final String s;
        int p = 0;
        int open = 0;

        Parse(String text) {
            s = text;
        }

        // The token that begins at p, or "" at the end; a Fault where none can.
        String peek() {
            while (p < s.length() && (s.charAt(p) == ' ' || s.charAt(p) == '\n')) {
                p++;
            }
            if (p == s.length()) {
                return "";
            }
            java.util.regex.Matcher m = java.util.regex.Pattern.compile("[a-z]+|[0-9]+|[();+\\-*<=]").matcher(s);
            if (!m.find(p) || m.start() != p) {
                throw new Fault(p);
            }
            String t = m.group();
            boolean bad = Character.isDigit(t.charAt(0)) ? t.length() > 4
                    : t.charAt(0) >= 'a' && t.charAt(0) <= 'z' && !t.matches("takes|puts|feels|or|and|not|crossing|jar|number|year|mood|eaten");
            if (bad) {
                throw new Fault(p);
            }
            return t;
        }

        boolean eat(String t) {
            if (!peek().equals(t)) {
                return false;
            }
            p += t.length();
            return true;
        }

        void need(String t) {
            if (!eat(t)) {
                throw new Fault(p);
            }
        }

        void opens(String t) {
            if (open == 5) {
                throw new Fault(p);
            }
            open++;
            need(t);
        }

        Told[] whole() {
            Told[] parts = new Told[3];
            String[] keys = {"takes", "puts", "feels"};
            for (int i = 0; i < 3; i++) {
                need(keys[i]);
                parts[i] = e();
                need(";");
            }
            if (!peek().isEmpty()) {
                throw new Fault(p);
            }
            return parts;
        }

        Told e() {
            Told left = and();
            while (eat("or")) {
                Told a = left;
                Told b = and();
                left = o -> (a.of(o) != 0) | (b.of(o) != 0) ? 1 : 0;
            }
            return left;
        }

        Told and() {
            Told left = not();
            while (eat("and")) {
                Told a = left;
                Told b = not();
                left = o -> (a.of(o) != 0) & (b.of(o) != 0) ? 1 : 0;
            }
            return left;
        }

        Told not() {
            if (peek().equals("not")) {
                opens("not");
                Told a = not();
                open--;
                return o -> a.of(o) == 0 ? 1 : 0;
            }
            Told a = sum();
            if (eat("<")) {
                Told b = sum();
                return o -> a.of(o) < b.of(o) ? 1 : 0;
            }
            if (eat("=")) {
                Told b = sum();
                return o -> a.of(o) == b.of(o) ? 1 : 0;
            }
            return a;
        }

        Told sum() {
            Told left = term();
            while (true) {
                Told a = left;
                if (eat("+")) {
                    Told b = term();
                    left = o -> a.of(o) + b.of(o);
                } else if (eat("-")) {
                    Told b = term();
                    left = o -> a.of(o) - b.of(o);
                } else {
                    return left;
                }
            }
        }

        Told term() {
            Told left = one();
            while (eat("*")) {
                Told a = left;
                Told b = one();
                left = o -> a.of(o) * b.of(o);
            }
            return left;
        }

        Told one() {
            String t = peek();
            if (t.equals("(")) {
                opens("(");
                Told a = e();
                need(")");
                open--;
                return a;
            }
            if (t.equals("-")) {
                opens("-");
                Told a = one();
                open--;
                return o -> -a.of(o);
            }
            if (!t.isEmpty() && Character.isDigit(t.charAt(0))) {
                need(t);
                int v = Integer.parseInt(t);
                return o -> v;
            }
            Map<String, Told> names = new HashMap<>();
            names.put("crossing", o -> o.one.at);
            names.put("jar", o -> o.jar);
            names.put("number", o -> o.one.number);
            names.put("year", o -> o.year);
            names.put("mood", o -> o.one.mood);
            names.put("eaten", o -> o.one.eaten);
            if (!names.containsKey(t)) {
                throw new Fault(p);
            }
            need(t);
            return names.get(t);
        }
    }

    /** All that lasts over a year, copied whole wherever something is only thought. */
    private static final class State {
        int[][] to = new int[12][2];
        int[][] jar = new int[12][2];
        int year;
        int rule;
        List<One> lives = new ArrayList<>();
        List<Told[]> texts;

        State like() {
            State s = new State();
            for (int c = 0; c < 12; c++) {
                s.to[c] = to[c].clone();
                s.jar[c] = jar[c].clone();
            }
            s.year = year;
            s.rule = rule;
            s.texts = texts;
            for (One o : lives) {
                s.lives.add(o.like());
            }
            return s;
        }

        int hold(int v, int a, int b) {
            return v < a ? a : v > b ? b : v;
        }

        int tell(int part, One one, int jarHas) {
            Of o = new Of();
            o.one = one;
            o.jar = jarHas;
            o.year = year;
            return hold(texts.get(rule)[part].of(o), part == 1 ? 0 : -99, 99);
        }

        int takes(One o, String as) {
            switch (as) {
                case "LIFE": return Math.abs(tell(0, o, jar[o.at][0] + jar[o.at][1])) % 2;
                case "ENGINEER": return o.at == o.number ? 1 : takes(o, "LIFE");
                case "CLERGYMAN": return jar[o.at][0] <= jar[o.at][1] ? 0 : 1;
                case "GIRL": return o.mood < 0 ? 1 - takes(o, "ENGINEER") : takes(o, "ENGINEER");
                case "BISHOP": return year % 3 != 0 ? takes(o, "CLERGYMAN") : 0;
                default: return o.number % 2;
            }
        }

        int putsRaw(One o, String as) {
            switch (as) {
                case "LIFE": return tell(1, o, jar[o.at][0] + jar[o.at][1]);
                case "ENGINEER": return 2 * putsRaw(o, "LIFE");
                case "CLERGYMAN": return 1 + putsRaw(o, "LIFE");
                case "GIRL": return o.number + putsRaw(o, "ENGINEER");
                case "BISHOP": return putsRaw(o, "CLERGYMAN") / 2;
                default: return 0;
            }
        }

        int puts(One o) {
            return hold(putsRaw(o, o.kind), 0, 99);
        }

        int feels(One o, int jarHas, String as) {
            switch (as) {
                case "LIFE": return tell(2, o, jarHas);
                case "ENGINEER": return Math.max(0, feels(o, jarHas, "LIFE"));
                case "CLERGYMAN": return o.eaten >= 3 ? 0 - feels(o, jarHas, "LIFE") : feels(o, jarHas, "LIFE");
                case "GIRL": return 2 * feels(o, jarHas, "ENGINEER");
                case "BISHOP": return feels(o, jarHas, "CLERGYMAN") + o.number;
                default: return 0;
            }
        }

        void goYear(int turned) {
            for (int i = 0; i < lives.size(); i++) {
                One o = lives.get(i);
                int road = takes(o, o.kind);
                if (i == turned) {
                    road ^= 1;
                }
                int more = puts(o);
                jar[o.at][road ^ 1] = Math.min(999, jar[o.at][road ^ 1] + more);
                o.at = to[o.at][road];
            }
            year++;
        }

        State behind(int n) {
            State s = like();
            for (int i = 0; i < n; i++) {
                s.goYear(-1);
            }
            return s;
        }

        int all() {
            int sum = 0;
            for (int[] j : jar) {
                sum += j[0] + j[1];
            }
            return sum;
        }
    }

    /** The second reading: everything plainly and slowly. */
    private static final class Model {
        static final String[] KINDS = {"LIFE", "ENGINEER", "CLERGYMAN", "GIRL", "BISHOP", "WOMAN"};
        State s = new State();
        State kept = null;
        List<One> lives = s.lives;
        String tape = "";
        int[][] sheets = new int[4][];
        int[] sorts = {-1, -1, -1, -1};

        Model() {
            s.texts = new ArrayList<>();
            s.texts.add(new Parse("takes crossing + year ; puts 2 ; feels 5 ;").whole());
            for (int c = 0; c < 12; c++) {
                s.to[c][0] = (c + 1) % 12;
                s.to[c][1] = (c + 2) % 12;
            }
        }

        boolean is(int one) {
            return one >= 0 && one < s.lives.size();
        }

        boolean in(int v, int a, int b) {
            return v >= a && v <= b;
        }

        int set(int what, int of, int v) {
            int was = what < 0 || what > 6 ? -1000 : told(of, what);
            int[][] bounds = {{0, 11}, {0, 999}, {0, 999}, {0, 9}, {0, 11}, {-99, 99}, {0, 999}};
            if (was == -1000 || !in(v, bounds[what][0], bounds[what][1])) {
                return -1000;
            }
            switch (what) {
                case 0: s.to[of / 2][of % 2] = v; break;
                case 1: s.jar[of / 2][of % 2] = v; break;
                case 2: s.year = v; break;
                case 3: s.lives.get(of).number = v; break;
                case 4: s.lives.get(of).at = v; break;
                case 5: s.lives.get(of).mood = v; break;
                default: s.lives.get(of).eaten = v; break;
            }
            return was;
        }

        int life(int kind, int number, int at) {
            if (!in(kind, 0, 5) || !in(number, 0, 9) || !in(at, 0, 11)) {
                return -2;
            }
            if (s.lives.size() == 5) {
                return -4;
            }
            One o = new One();
            o.kind = KINDS[kind];
            o.number = number;
            o.at = at;
            s.lives.add(o);
            return s.lives.size() - 1;
        }

        int told(int of, int what) {
            if (what == 2) {
                return s.year;
            }
            if (what == 0 || what == 1) {
                return !in(of, 0, 23) ? -1000 : what == 0 ? s.to[of / 2][of % 2] : s.jar[of / 2][of % 2];
            }
            if (what == 10) {
                int bits = 0;
                for (int i = 0; i < s.lives.size(); i++) {
                    bits += s.lives.get(i).at == of ? 1 << i : 0;
                }
                return in(of, 0, 11) ? bits : -1000;
            }
            if (!is(of)) {
                return -1000;
            }
            One o = s.lives.get(of);
            switch (what) {
                case 3: return o.number;
                case 4: return o.at;
                case 5: return o.mood;
                case 6: return o.eaten;
                case 7: return List.of(KINDS).indexOf(o.kind);
                case 8: return s.takes(o, o.kind);
                case 9: return s.puts(o);
                default: return -1000;
            }
        }

        int tastes(int one, int jar) {
            return !is(one) || !in(jar, 0, 23) ? -1000 : s.feels(s.lives.get(one), s.jar[jar / 2][jar % 2], s.lives.get(one).kind);
        }

        int feed(int letter) {
            if (!in(letter, 0, 255)) {
                return -2;
            }
            if (tape.length() == 160) {
                return -4;
            }
            tape += (char) letter;
            return tape.length();
        }

        int text() {
            if (s.texts.size() == 6) {
                return -4;
            }
            Parse p = new Parse(tape);
            tape = "";
            try {
                s.texts.add(p.whole());
                return s.texts.size() - 1;
            } catch (Fault f) {
                return -100 - f.place;
            }
        }

        int force(int text) {
            if (!in(text, 0, s.texts.size() - 1)) {
                return -2;
            }
            int was = s.rule;
            s.rule = text;
            return was;
        }

        int year() {
            if (s.year == 999) {
                return -3;
            }
            s.goYear(-1);
            return s.all();
        }

        int spoon(int one, int jar) {
            int feels = tastes(one, jar);
            if (feels == -1000) {
                return -1000;
            }
            if (s.jar[jar / 2][jar % 2] == 0) {
                return -1003;
            }
            One o = s.lives.get(one);
            o.mood = s.hold(o.mood + feels, -99, 99);
            o.eaten = Math.min(999, o.eaten + 1);
            s.jar[jar / 2][jar % 2]--;
            return o.mood;
        }

        int run(int one, int n, int what) {
            if (!is(one) || !in(n, 0, 60) || !in(what, 0, 2) && !in(what, 10, 33)) {
                return -2;
            }
            if (what == 1) {
                int bits = 0;
                for (int i = 0; i <= n; i++) {
                    bits |= 1 << s.behind(i).lives.get(one).at;
                }
                return bits;
            }
            State then = s.behind(n);
            return what == 0 ? then.lives.get(one).at : what == 2 ? then.all() : then.jar[(what - 10) / 2][what % 2];
        }

        int otherwise(int one, int n, int k) {
            if (!is(one) || !in(n, 1, 40) || !in(k, 0, n - 1)) {
                return -2;
            }
            State then = s.behind(k);
            then.goYear(one);
            return then.behind(n - k - 1).lives.get(one).at;
        }

        long ways(int from, int to, int n, Map<Integer, Long> known) {
            if (n == 0) {
                return from == to ? 1 : 0;
            }
            int key = from * 100 + n;
            if (!known.containsKey(key)) {
                known.put(key, ways(s.to[from][0], to, n - 1, known) + ways(s.to[from][1], to, n - 1, known));
            }
            return known.get(key);
        }

        long turns(int from, int to, int n) {
            return in(from, 0, 11) && in(to, 0, 11) && in(n, 0, 30) ? ways(from, to, n, new HashMap<>()) : -4611686018427387904L;
        }

        long lowest(long above, long below, int part) {
            java.math.BigInteger g = java.math.BigInteger.valueOf(above).gcd(java.math.BigInteger.valueOf(below));
            return (part == 0 ? above : below) / g.longValue();
        }

        long likely(int from, int to, int n, int part) {
            long ways = turns(from, to, n);
            return ways < 0 || !in(part, 0, 1) ? -4611686018427387904L : lowest(ways, 1L << n, part);
        }

        int others(One o, int to, int n, int year, Map<Integer, Integer> known) {
            if (n == 0) {
                return o.at == to ? 0 : 1000;
            }
            int at = o.at;
            int key = at * 100 + n;
            if (!known.containsKey(key)) {
                int was = s.year;
                s.year = year;
                int road = s.takes(o, o.kind);
                s.year = was;
                o.at = s.to[at][road];
                int same = others(o, to, n - 1, year + 1, known);
                o.at = s.to[at][1 - road];
                int other = 1 + others(o, to, n - 1, year + 1, known);
                o.at = at;
                known.put(key, Math.min(same, other));
            }
            return known.get(key);
        }

        int fewest(int one, int to, int n) {
            if (!is(one) || !in(to, 0, 11) || !in(n, 0, 30)) {
                return -2;
            }
            int found = others(s.lives.get(one).like(), to, n, s.year, new HashMap<>());
            return found >= 1000 ? -1 : found;
        }

        int meet(int one, int other) {
            if (!is(one) || !is(other) || one == other) {
                return -2;
            }
            State then = s.like();
            for (int i = 0; i <= 60; i++) {
                if (then.lives.get(one).at == then.lives.get(other).at) {
                    return i;
                }
                then.goYear(-1);
            }
            return -1;
        }

        int shut(int n, int what) {
            if (!in(n, 0, 40) || !in(what, 0, 1)) {
                return -2;
            }
            int most = s.behind(n).all();
            int which = -1;
            for (int c = 0; c < 12; c++) {
                State then = s.like();
                for (int[] roads : then.to) {
                    roads[0] = roads[0] == c ? (c + 1) % 12 : roads[0];
                    roads[1] = roads[1] == c ? (c + 1) % 12 : roads[1];
                }
                int all = then.behind(n).all();
                if (all > most) {
                    most = all;
                    which = c;
                }
            }
            return what == 0 ? which : most;
        }

        int best(int one, int what) {
            if (!is(one) || !in(what, 0, 2)) {
                return -1000;
            }
            int which = -1;
            int most = 0;
            for (int j = 0; j < 24; j++) {
                int has = s.jar[j / 2][j % 2];
                int how = what == 2 ? has : tastes(one, j);
                if (has > 0 && (which < 0 || how > most)) {
                    which = j;
                    most = how;
                }
            }
            return what == 1 ? most : which;
        }

        boolean so(int sheet, int one, State then) {
            return unlike(sheet, one, then) < 0;
        }

        int unlike(int sheet, int one, State start) {
            State then = start.like();
            for (int i = 0; i < sheets[sheet].length; i++) {
                then.goYear(-1);
                if (then.lives.get(one).at != sheets[sheet][i]) {
                    return i;
                }
            }
            return -1;
        }

        int bits(int many, ToIntFunction<Integer> isSo) {
            int bits = 0;
            for (int i = 0; i < many; i++) {
                bits |= isSo.applyAsInt(i) << i;
            }
            return bits;
        }

        int tells(int sheet, int one, int what) {
            if (!in(sheet, 0, 3) || !is(one) || !in(what, 0, 7)) {
                return -1002;
            }
            if (sheets[sheet] == null) {
                return -1011;
            }
            if (sheets[sheet].length > 30) {
                return -1003;
            }
            State t = s.like();
            One o = t.lives.get(one);
            switch (what) {
                case 0: return unlike(sheet, one, t);
                case 1: return bits(6, v -> {
                    o.kind = KINDS[v];
                    return so(sheet, one, t) ? 1 : 0;
                });
                case 2: return bits(10, v -> {
                    o.number = v;
                    return so(sheet, one, t) ? 1 : 0;
                });
                case 3: return bits(12, v -> {
                    o.at = v;
                    return so(sheet, one, t) ? 1 : 0;
                });
                case 6: return bits(s.texts.size(), v -> {
                    t.rule = v;
                    return so(sheet, one, t) ? 1 : 0;
                });
                case 7: return bits(s.lives.size(), v -> so(sheet, v, t) ? 1 : 0);
                default: break;
            }
            int many = 0;
            int least = -100;
            for (int mood = 99; mood >= -99; mood--) {
                o.mood = mood;
                if (so(sheet, one, t)) {
                    many++;
                    least = mood;
                }
            }
            return what == 4 ? many : least;
        }

        int film(int sheet, int one, int n) {
            if (!in(sheet, 0, 3) || !is(one) || !in(n, 0, 30)) {
                return -2;
            }
            sheets[sheet] = new int[n];
            sorts[sheet] = 0;
            for (int i = 0; i < n; i++) {
                sheets[sheet][i] = s.behind(i + 1).lives.get(one).at;
            }
            return n;
        }

        int drawn(int seed, int one, int n) {
            if (!is(one) || !in(n, 0, 40)) {
                return -2;
            }
            int at = s.lives.get(one).at;
            int z = seed;
            for (int i = 0; i < n; i++) {
                z = z * 1103515245 + 12345;
                at = s.to[at][(z >> 9) & 1];
            }
            return at;
        }

        long chance(int seed, int m, int one, int to, int part) {
            if (!in(m, 1, 40) || !is(one) || !in(to, 0, 11) || !in(part, 0, 1)) {
                return -4611686018427387904L;
            }
            int hits = 0;
            for (int i = 0; i < m; i++) {
                hits += drawn(seed + i, one, 8) == to ? 1 : 0;
            }
            return lowest(hits, m, part);
        }

        int image() {
            kept = s.like();
            return s.lives.size();
        }

        int back() {
            if (kept == null) {
                return -3;
            }
            s = kept.like();
            lives = s.lives;
            return s.lives.size();
        }

        int count(int what) {
            int[] all = {s.lives.size(), s.all(), s.year, s.texts.size(), tape.length(), s.rule};
            return in(what, 0, 5) ? all[what] : -2;
        }

        int sheet(int sheet, int sort, int n) {
            if (!in(sheet, 0, 3) || !in(sort, -1, 2) || sort >= 0 && n > 40) {
                return -2;
            }
            if (sort >= 0 && n < 0) {
                return -14;
            }
            sorts[sheet] = sort;
            sheets[sheet] = sort < 0 ? null : new int[n];
            return 1;
        }

        int cell(int sheet, int i, int v) {
            if (!in(sheet, 0, 3)) {
                return -2;
            }
            if (sheets[sheet] == null) {
                return -11;
            }
            if (!in(i, 0, sheets[sheet].length - 1)) {
                return -12;
            }
            sheets[sheet][i] = sorts[sheet] == 0 ? (v << 24) >> 24 : sorts[sheet] == 1 ? (v << 16) >> 16 : v;
            return 1;
        }

        int copy(int sheet, int i, int other, int j, int n) {
            if (!in(sheet, 0, 3) || !in(other, 0, 3)) {
                return -2;
            }
            if (sheets[sheet] == null || sheets[other] == null) {
                return -11;
            }
            if (sorts[sheet] != sorts[other]) {
                return -13;
            }
            if (i < 0 || j < 0 || n < 0 || (long) i + n > sheets[sheet].length || (long) j + n > sheets[other].length) {
                return -12;
            }
            int[] were = sheets[sheet].clone();
            for (int k = 0; k < n; k++) {
                sheets[other][j + k] = were[i + k];
            }
            return n;
        }

        int lives(int sheet, int sort, int from, int n) {
            if (!in(sheet, 0, 3) || !in(sort, 0, 2) || !in(n, 0, 5)) {
                return -2;
            }
            if (sheets[sheet] == null) {
                return -11;
            }
            if (sorts[sheet] != sort) {
                return -13;
            }
            int came = 0;
            for (long k = 0; k < n; k++) {
                long i = from + 3 * k;
                if (i < 0 || i + 2 >= sheets[sheet].length) {
                    return -12;
                }
                int p = (int) i;
                came += life(sheets[sheet][p], sheets[sheet][p + 1], sheets[sheet][p + 2]) >= 0 ? 1 : 0;
            }
            return came;
        }

        int taken(int one, int k) {
            if (!in(k, 0, 5)) {
                return -2;
            }
            if (!is(one)) {
                return -11;
            }
            String[] lines = {"LIFE", "LIFE ENGINEER", "LIFE CLERGYMAN", "LIFE ENGINEER GIRL", "LIFE CLERGYMAN BISHOP", "LIFE WOMAN"};
            String line = lines[List.of(KINDS).indexOf(s.lives.get(one).kind)];
            return List.of(line.split(" ")).contains(KINDS[k]) ? s.lives.get(one).number : -13;
        }
    }
}
