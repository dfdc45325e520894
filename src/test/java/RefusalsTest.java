import java.lang.reflect.Method;
import java.util.ArrayList;
import java.util.Arrays;
import java.util.List;

/**
 * "Refusals, the first that the call's words name; they change nothing", and what would be is only thought.
 * Each such call is made on one of two objects that are alike; then both are asked all that they tell.
 */
public final class RefusalsTest {
    private static final int LEAST = Integer.MIN_VALUE, GREATEST = Integer.MAX_VALUE;
    private static final int SOME = 0, FULL_TEXTS = 1, FULL_TAPE = 2, LAST_YEAR = 3, STATES = 4;
    private static int wrong = 0;
    private static int calls = 0;

    public static void main(String[] args) throws Exception {
        probeSeesAll();
        refusedAnywhere();
        refusedWhereFull();
        onlyThought();
        System.out.println(wrong == 0 ? "all " + calls + " calls change nothing" : wrong + " things are not as due");
        if (wrong != 0) {
            System.exit(1);
        }
    }

    // ---- two objects that are alike

    private static void feedAll(RoadsNotGoneBy x, String letters) {
        for (int i = 0; i < letters.length(); i++) {
            x.feed(letters.charAt(i));
        }
    }

    private static RoadsNotGoneBy state(int which) {
        RoadsNotGoneBy x = new RoadsNotGoneBy();
        x.life(5, 0, 2);
        x.life(3, 7, 0);
        x.image();
        x.life(4, 3, 0);
        feedAll(x, "takes 1;puts jar;feels eaten;");
        x.force(x.text());
        x.set(0, 5, 9);
        x.set(1, 0, 8);
        x.set(1, 3, 999);
        x.set(2, 0, which == LAST_YEAR ? 999 : 4);
        x.set(5, 1, -4);
        x.set(6, 2, 6);
        for (int sheet = 0; sheet < 3; sheet++) {
            x.sheet(sheet, sheet == 2 ? 0 : sheet, 3);
            for (int i = 0; i < 3; i++) {
                x.cell(sheet, i, 1 + 3 * sheet + i);
            }
        }
        if (which == FULL_TEXTS) {
            x.life(0, 9, 1);
            x.life(1, 9, 1);
            for (int i = 2; i < 6; i++) {
                feedAll(x, "takes1;puts" + i + ";feels1;");
                x.text();
            }
        }
        feedAll(x, "takes 1;puts 5;feels 6");
        for (int i = 0; which == FULL_TAPE && i < 160; i++) {
            x.feed(' ');
        }
        return x;
    }

    // All that an object tells, by calls of which some change it in the end.
    private static List<Long> probe(RoadsNotGoneBy x) {
        List<Long> told = new ArrayList<>();
        visible(x, told);
        int full = x.feed(';');
        told.add((long) full);
        told.add((long) x.text());
        visibleTexts(x, told);
        for (int jar = 0; jar < 24; jar++) {
            x.set(0, jar, (jar / 2 + 1 + jar % 2) % 12);
        }
        told.add((long) x.cell(3, 0, 0));
        for (int sheet = 0; sheet < 3; sheet++) {
            for (int i = 0; i < 3; i++) {
                told.add((long) x.sheet(3, sheet == 2 ? 0 : sheet, 1));
                told.add((long) x.copy(sheet, i, 3, 0, 1));
                told.add((long) x.tells(3, 0, 3));
            }
            told.add((long) x.cell(sheet, 2, 0));
            told.add((long) x.cell(sheet, 3, 0));
        }
        told.add((long) x.back());
        visible(x, told);
        return told;
    }

    private static void visible(RoadsNotGoneBy x, List<Long> told) {
        for (int what = 0; what < 6; what++) {
            told.add((long) x.count(what));
        }
        for (int jar = 0; jar < 24; jar++) {
            told.add((long) x.told(jar, 0));
            told.add((long) x.told(jar, 1));
        }
        for (int one = 0; one < x.count(0); one++) {
            for (int what = 3; what < 10; what++) {
                told.add((long) x.told(one, what));
            }
        }
    }

    private static void visibleTexts(RoadsNotGoneBy x, List<Long> told) {
        int many = x.count(3);
        for (int text = 0; text < many; text++) {
            told.add((long) x.force(text));
            told.add((long) x.told(1, 8));
            told.add((long) x.told(1, 9));
            told.add((long) x.tastes(1, 3));
        }
    }

    // A probe that overlooked something would let every call pass.
    private static void probeSeesAll() {
        int[][] sets = {{0, 11, 3}, {1, 23, 1}, {2, 0, 5}, {3, 2, 1}, {4, 2, 5}, {5, 1, 6}, {6, 2, 7}};
        for (int[] s : sets) {
            RoadsNotGoneBy x = state(SOME);
            x.set(s[0], s[1], s[2]);
            seen("set", x);
        }
        RoadsNotGoneBy x = state(SOME);
        x.life(0, 0, 0);
        seen("life", x);
        x = state(SOME);
        x.feed('1');
        seen("feed", x);
        x = state(SOME);
        x.text();
        seen("text", x);
        x = state(SOME);
        x.force(0);
        seen("force", x);
        x = state(SOME);
        x.image();
        seen("image", x);
        for (int sheet = 0; sheet < 4; sheet++) {
            x = state(SOME);
            x.sheet(sheet, sheet == 2 ? 0 : sheet % 3, 4);
            seen("sheet", x);
            x = state(SOME);
            x.sheet(sheet, sheet < 3 ? -1 : 2, 0);
            seen("sheet", x);
            if (sheet < 3) {
                x = state(SOME);
                x.cell(sheet, 2, 11);
                seen("cell", x);
            }
        }
    }

    private static void seen(String call, RoadsNotGoneBy x) {
        if (probe(x).equals(probe(state(SOME)))) {
            wrong++;
            System.out.println("the probe overlooks what " + call + " has changed");
        }
    }

    // ---- calls

    private static long call(RoadsNotGoneBy x, String name, int... args) throws Exception {
        for (Method m : RoadsNotGoneBy.class.getMethods()) {
            if (m.getName().equals(name) && m.getParameterCount() == args.length) {
                Object[] boxed = new Object[args.length];
                for (int i = 0; i < args.length; i++) {
                    boxed[i] = args[i];
                }
                return ((Number) m.invoke(x, boxed)).longValue();
            }
        }
        throw new IllegalArgumentException(name);
    }

    private static void refused(int which, long want, String name, int... args) throws Exception {
        RoadsNotGoneBy x = state(which);
        String told = name + Arrays.toString(args) + " in state " + which;
        long got = call(x, name, args);
        if (got != want) {
            wrong++;
            System.out.println(told + " answered " + got + ", due is " + want);
        }
        changesNothing(which, x, told);
    }

    private static void changesNothing(int which, RoadsNotGoneBy x, String told) {
        calls++;
        List<Long> mine = probe(x);
        List<Long> other = probe(state(which));
        if (!mine.equals(other)) {
            wrong++;
            System.out.println(told + " changed something: " + mine + " is not " + other);
        }
    }

    private static void refusedAll(long want, String name, int[]... rows) throws Exception {
        for (int which = 0; which < STATES; which++) {
            for (int[] row : rows) {
                refused(which, want, name, row);
            }
        }
    }

    private static int[] of(int... args) {
        return args;
    }

    private static void refusedAnywhere() throws Exception {
        int none = RoadsNotGoneBy.BAD;
        refusedAll(-1000, "set", of(0, 24, 1), of(0, -1, 1), of(0, 0, 12), of(0, 0, -1), of(1, 24, 1), of(1, 0, 1000), of(1, 0, -1), of(2, 0, 1000),
            of(2, 0, -1), of(3, 5, 1), of(3, 0, 10), of(4, 5, 1), of(4, 0, 12), of(5, 5, 1), of(5, 0, 100), of(5, 0, -100), of(6, 5, 1), of(6, 0, 1000),
            of(7, 0, 0), of(-1, 0, 0), of(LEAST, LEAST, LEAST), of(GREATEST, GREATEST, GREATEST));
        refusedAll(none, "life", of(-1, 0, 0), of(6, 0, 0), of(0, -1, 0), of(0, 10, 0), of(0, 0, -1), of(0, 0, 12));
        refusedAll(-1000, "told", of(24, 0), of(-1, 1), of(5, 3), of(-1, 9), of(12, 10), of(0, 11), of(0, -1));
        refusedAll(-1000, "tastes", of(5, 0), of(-1, 0), of(0, 24), of(0, -1));
        refusedAll(none, "feed", of(-1), of(256), of(LEAST), of(GREATEST));
        refusedAll(none, "force", of(-1), of(6), of(GREATEST));
        refusedAll(-1000, "spoon", of(5, 0), of(-1, 0), of(0, 24), of(0, -1), of(5, 1));
        refusedAll(-1003, "spoon", of(0, 23), of(1, 10));
        refusedAll(none, "run", of(5, 0, 0), of(-1, 0, 0), of(0, 61, 0), of(0, -1, 0), of(0, 9, 3), of(0, 9, 9), of(0, 9, 34), of(0, 9, -1));
        refusedAll(none, "otherwise", of(5, 1, 0), of(-1, 1, 0), of(0, 0, 0), of(0, 41, 0), of(0, 3, 3), of(0, 3, -1));
        refusedAll(RoadsNotGoneBy.NO, "turns", of(12, 0, 0), of(-1, 0, 0), of(0, 12, 0), of(0, -1, 0), of(0, 0, 31), of(0, 0, -1));
        refusedAll(RoadsNotGoneBy.NO, "likely", of(12, 0, 0, 0), of(0, -1, 0, 0), of(0, 0, 31, 0), of(0, 0, 3, 2), of(0, 0, 3, -1));
        refusedAll(none, "fewest", of(5, 0, 0), of(-1, 0, 0), of(0, 12, 0), of(0, -1, 0), of(0, 0, 31), of(0, 0, -1));
        refusedAll(none, "meet", of(0, 0), of(0, 5), of(5, 0), of(-1, 0), of(0, -1));
        refusedAll(none, "shut", of(-1, 0), of(41, 0), of(9, 2), of(9, -1));
        refusedAll(-1000, "best", of(5, 0), of(-1, 0), of(0, 3), of(0, -1));
        refusedAll(-1002, "tells", of(-1, 0, 0), of(4, 0, 0), of(0, 5, 0), of(0, -1, 0), of(0, 0, 8), of(0, 0, -1), of(3, 0, 8));
        refusedAll(-1011, "tells", of(3, 0, 0), of(3, 0, 7));
        refusedAll(none, "film", of(-1, 0, 3), of(4, 0, 3), of(0, 5, 3), of(0, -1, 3), of(0, 0, 31), of(0, 0, -1), of(3, 0, 31));
        refusedAll(none, "drawn", of(1, 5, 3), of(1, -1, 3), of(1, 0, 41), of(1, 0, -1));
        refusedAll(RoadsNotGoneBy.NO, "chance", of(1, 0, 0, 0, 0), of(1, 41, 0, 0, 0), of(1, 9, 5, 0, 0), of(1, 9, 0, 12, 0), of(1, 9, 0, 0, 2));
        refusedAll(none, "count", of(-1), of(6));
        refusedAll(none, "sheet", of(-1, 0, 3), of(4, 0, 3), of(0, -2, 3), of(0, 3, 3), of(0, 0, 41), of(3, 2, 41), of(0, 3, -1), of(4, -1, 0));
        refusedAll(-14, "sheet", of(0, 0, -1), of(1, 1, LEAST), of(3, 2, -1));
        refusedAll(none, "cell", of(-1, 0, 5), of(4, 0, 5));
        refusedAll(-11, "cell", of(3, 0, 5), of(3, -1, 5));
        refusedAll(-12, "cell", of(0, 3, 5), of(0, -1, 5), of(1, 39, 5), of(2, GREATEST, 5), of(2, LEAST, 5));
        refusedAll(none, "copy", of(-1, 0, 0, 0, 1), of(0, 0, 4, 0, 1), of(3, 0, 4, 0, 1));
        refusedAll(-11, "copy", of(3, 0, 0, 0, 1), of(0, 0, 3, 0, 1), of(3, 0, 3, 0, 0));
        refusedAll(-13, "copy", of(0, 0, 1, 0, 1), of(1, 0, 2, 0, 1), of(1, 9, 2, 9, -1));
        refusedAll(-12, "copy", of(0, 0, 2, 0, 4), of(0, 1, 2, 0, 3), of(0, 0, 2, 1, 3), of(2, 0, 0, 0, -1), of(0, 2, 0, 1, 2), of(0, -1, 2, 0, 2));
        refusedAll(none, "lives", of(-1, 0, 0, 1), of(4, 0, 0, 1), of(0, 3, 0, 1), of(0, -1, 0, 1), of(0, 0, 0, 6), of(0, 0, 0, -1));
        refusedAll(-11, "lives", of(3, 0, 0, 1), of(3, 2, 9, 1));
        refusedAll(-13, "lives", of(0, 1, 0, 1), of(0, 2, 9, 1), of(1, 0, 0, 1));
        refusedAll(-12, "lives", of(0, 0, 1, 1), of(0, 0, 3, 1), of(0, 0, -1, 2), of(0, 0, GREATEST, 5), of(0, 0, LEAST, 5));
        refusedAll(none, "taken", of(0, 6), of(0, -1), of(5, 6));
        refusedAll(-11, "taken", of(5, 0), of(-1, 0));
        refusedAll(-13, "taken", of(0, 1), of(0, 4), of(1, 2), of(2, 3));
    }

    private static void refusedWhereFull() throws Exception {
        refused(FULL_TEXTS, RoadsNotGoneBy.FULL, "life", 0, 0, 0);
        refused(FULL_TEXTS, RoadsNotGoneBy.FULL, "text");
        refused(FULL_TAPE, RoadsNotGoneBy.FULL, "feed", ';');
        refused(LAST_YEAR, RoadsNotGoneBy.STATE, "year");
        refused(FULL_TEXTS, 0, "lives", 0, 0, 0, 1);
        RoadsNotGoneBy x = new RoadsNotGoneBy();
        x.life(0, 0, 4);
        if (x.back() != RoadsNotGoneBy.STATE || x.count(0) != 1 || x.told(0, 4) != 4) {
            wrong++;
            System.out.println("back() without an IMAGE changed something");
        }
    }

    private static void thought(String name, int... args) throws Exception {
        for (int which = 0; which < STATES; which++) {
            RoadsNotGoneBy x = state(which);
            long first = call(x, name, args);
            if (first != call(x, name, args)) {
                wrong++;
                System.out.println(name + Arrays.toString(args) + " answers otherwise at once");
            }
            changesNothing(which, x, name + Arrays.toString(args) + " in state " + which);
        }
    }

    private static void onlyThought() throws Exception {
        for (int what = 0; what < 11; what++) {
            thought("told", 0, what);
        }
        thought("tastes", 2, 3);
        thought("run", 2, 60, 0);
        thought("run", 2, 60, 1);
        thought("run", 2, 60, 2);
        thought("run", 2, 60, 33);
        thought("otherwise", 2, 40, 39);
        thought("turns", 0, 3, 30);
        thought("likely", 0, 3, 30, 1);
        thought("fewest", 2, 3, 30);
        thought("meet", 0, 1);
        thought("shut", 40, 0);
        thought("shut", 40, 1);
        thought("best", 2, 0);
        thought("best", 2, 1);
        thought("best", 2, 2);
        for (int what = 0; what < 8; what++) {
            thought("tells", 0, 2, what);
        }
        thought("drawn", 5, 2, 40);
        thought("chance", 5, 40, 2, 3, 0);
        thought("count", 1);
        thought("taken", 2, 4);
        thought("copy", 0, 0, 2, 0, 0);
        thought("copy", 0, 0, 0, 0, 3);
        thought("lives", 0, 0, 0, 0);
        thought("force", 1);
    }
}
