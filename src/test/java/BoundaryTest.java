import java.nio.charset.StandardCharsets;
import java.nio.file.Files;
import java.nio.file.Path;

/**
 * Each sentence of ../shared/DOC.md that names a boundary case has a test of its own here, in the document's order.
 * Promise 0 is what stands ahead of promise 1. The words that a test is of must stand in the document as they stand here.
 */
public final class BoundaryTest {
    private static final int LEAST = Integer.MIN_VALUE, GREATEST = Integer.MAX_VALUE;
    private static final int NONE = RoadsNotGoneBy.NONE, BAD = RoadsNotGoneBy.BAD, STATE = RoadsNotGoneBy.STATE;
    private static final int FULL = RoadsNotGoneBy.FULL;
    private static final long NO = RoadsNotGoneBy.NO;
    private static final String END = ";puts 1;feels 1;";

    private static int wrong = 0;
    private static int asked = 0;
    private static int sentences = 0;
    private static int promise = 0;
    private static String words = "";
    private static String document = "";
    private static final boolean[] TESTED = new boolean[31];

    public static void main(String[] args) throws Exception {
        document = Files.readString(Path.of("../shared/DOC.md"), StandardCharsets.UTF_8).replaceAll("\\s+", " ");
        sizes();
        refusals();
        takes();
        putsBy();
        feels();
        tape();
        tokens();
        grammar();
        faults();
        openOnes();
        namesAndBounds();
        yearsAndSpoons();
        whatWouldBe();
        toldAndDrawn();
        sheetsAtFirst();
        newObject();
        setAndTold();
        lifeAndTastes();
        texts();
        years();
        counted();
        livesToldBack();
        images();
        sheetsAndCells();
        copies();
        livesBySheet();
        takenFor();
        says(0, "");
        for (int p = 0; p < TESTED.length; p++) {
            if (!TESTED[p]) {
                complain("promise " + p + " has no test");
            }
        }
        System.out.println(wrong == 0 ? "all " + sentences + " sentences hold" : wrong + " answers are not as due");
        if (wrong != 0) {
            System.exit(1);
        }
    }

    // ---- helpers

    private static void complain(String what) {
        wrong++;
        System.out.println(what);
    }

    private static void says(int ofPromise, String sentence) {
        if (!words.isEmpty() && asked == 0) {
            complain("nothing was asked of: " + words);
        }
        if (!document.contains(sentence)) {
            complain("the document does not say: " + sentence);
        }
        promise = ofPromise;
        words = sentence;
        asked = 0;
        sentences += sentence.isEmpty() ? 0 : 1;
    }

    private static void due(String call, long got, long want) {
        asked++;
        TESTED[promise] = true;
        if (got != want) {
            complain("promise " + promise + ", \"" + words + "\": " + call + " answered " + got + ", due is " + want);
        }
    }

    private static int feedAll(RoadsNotGoneBy x, String letters) {
        int last = 0;
        for (int i = 0; i < letters.length(); i++) {
            last = x.feed(letters.charAt(i));
        }
        return last;
    }

    private static int read(String letters) {
        RoadsNotGoneBy x = new RoadsNotGoneBy();
        feedAll(x, letters);
        return x.text();
    }

    private static RoadsNotGoneBy ruledBy(String takes, String puts, String feels) {
        RoadsNotGoneBy x = new RoadsNotGoneBy();
        feedAll(x, "takes " + takes + ";puts " + puts + ";feels " + feels + ";");
        x.force(x.text());
        return x;
    }

    private static void cells(RoadsNotGoneBy x, int sheet, int sort, int... items) {
        x.sheet(sheet, sort, items.length);
        for (int i = 0; i < items.length; i++) {
            x.cell(sheet, i, items[i]);
        }
    }

    // Item i by the road of a WOMAN of NUMBER 0: she comes to it only from the CROSSING ahead. Needs SHEET 3 and the first roads.
    private static int itemOf(RoadsNotGoneBy x, int woman, int sheet, int sort, int i) {
        x.sheet(3, sort, 1);
        x.copy(sheet, i, 3, 0, 1);
        int ahead = x.tells(3, woman, 3);
        return ahead == 0 ? NONE : (Integer.numberOfTrailingZeros(ahead) + 1) % 12;
    }

    private static void fault(String before, String at, String after) {
        due("text() of " + before + " >" + at + "< " + after, read(before + at + after), -100 - before.length());
    }

    private static void stands(String letters) {
        due("text() of " + letters, read(letters), 1);
    }

    private static String spaces(int n) {
        return " ".repeat(n);
    }

    // ---- ahead of promise 1: how much there may be

    private static void sizes() {
        RoadsNotGoneBy x = new RoadsNotGoneBy();
        says(0, "CROSSINGS 0 .. 11, from each ROADS 0 and 1 TO a CROSSING");
        due("set(0, 0, -1)", x.set(0, 0, -1), -1000);
        due("set(0, 0, 12)", x.set(0, 0, 12), -1000);
        due("set(0, 0, 11)", x.set(0, 0, 11), 1);
        due("set(0, 23, 0)", x.set(0, 23, 0), 1);
        due("set(0, 24, 0)", x.set(0, 24, 0), -1000);
        due("set(0, -1, 0)", x.set(0, -1, 0), -1000);

        says(0, "(at first ROAD 0 to the next one, ROAD 1 to the one behind that, round: behind 11 is 0)");
        x = new RoadsNotGoneBy();
        int[][] ways = {{0, 1}, {1, 2}, {20, 11}, {21, 0}, {22, 0}, {23, 1}};
        for (int[] w : ways) {
            due("told(" + w[0] + ", 0)", x.told(w[0], 0), w[1]);
        }

        says(0, "JARS: of each CROSSING and ROAD so much (0 .. 999; 0 at first)");
        for (int jar = 0; jar < 24; jar += 23) {
            due("told", x.told(jar, 1), 0);
            due("1000", x.set(1, jar, 1000), -1000);
            due("-1", x.set(1, jar, -1), -1000);
            due("999", x.set(1, jar, 999), 0);
            due("0", x.set(1, jar, 0), 999);
        }

        says(0, "JAR 2 times the CROSSING, and the ROAD.");
        x = new RoadsNotGoneBy();
        x.life(0, 0, 0);
        x.life(0, 0, 11);
        due("ROAD 0 of 0, ROAD 1 of 11", x.year(), 4);
        due("JAR 1", x.told(1, 1), 2);
        due("JAR 22", x.told(22, 1), 2);

        says(0, "YEAR (0 .. 999; 0 at first).");
        x = new RoadsNotGoneBy();
        due("told", x.told(0, 2), 0);
        due("1000", x.set(2, 0, 1000), -1000);
        due("-1", x.set(2, 0, -1), -1000);
        due("999", x.set(2, 0, 999), 0);
        due("0", x.set(2, 0, 0), 999);

        says(0, "LIVES (5 at most, numbered from 0)");
        for (int i = 0; i < 5; i++) {
            due("told of one not come yet", x.told(i, 4), -1000);
            due("life", x.life(i, 1, i), i);
        }
        due("a sixth", x.life(0, 0, 0), FULL);
        due("told of a sixth", x.told(5, 4), -1000);
        ofOne();
    }

    private static void ofOne() {
        says(0, "have a KIND: 0 LIFE, 1 ENGINEER under LIFE, 2 CLERGYMAN under LIFE, 3 GIRL under ENGINEER, 4 BISHOP under CLERGYMAN, "
            + "5 WOMAN under LIFE");
        RoadsNotGoneBy x = new RoadsNotGoneBy();
        due("KIND -1", x.life(-1, 0, 0), BAD);
        due("KIND 6", x.life(6, 0, 0), BAD);
        due("KIND 0", x.life(0, 0, 0), 0);
        due("KIND 5", x.life(5, 0, 0), 1);
        due("told", x.told(0, 7), 0);
        due("told", x.told(1, 7), 5);

        says(0, "a NUMBER (0 .. 9)");
        due("NUMBER -1", x.set(3, 0, -1), -1000);
        due("NUMBER 10", x.set(3, 0, 10), -1000);
        due("NUMBER 9", x.set(3, 0, 9), 0);
        due("NUMBER 0", x.set(3, 0, 0), 9);

        says(0, "in a MOOD (-99 .. 99; 0 as one comes)");
        due("MOOD -100", x.set(5, 0, -100), -1000);
        due("MOOD 100", x.set(5, 0, 100), -1000);
        due("MOOD -99", x.set(5, 0, -99), 0);
        due("MOOD 99", x.set(5, 0, 99), -99);
        due("of the other one", x.told(1, 5), 0);

        says(0, "have EATEN so many spoons (0 .. 999; 0)");
        due("EATEN -1", x.set(6, 0, -1), -1000);
        due("EATEN 1000", x.set(6, 0, 1000), -1000);
        due("EATEN 999", x.set(6, 0, 999), 0);
        due("EATEN 0", x.set(6, 0, 0), 999);
        due("of the other one", x.told(1, 6), 0);

        says(0, "NONE is -1; NO, where a long is answered, -4611686018427387904.");
        due("NONE", NONE, -1);
        due("NO", NO, -4611686018427387904L);

        says(0, "Quotients are cut toward 0.");
        due("half of 0 and 1", putsOf(4, 0, "0"), 0);
        due("half of 2 and 1", putsOf(4, 0, "2"), 1);
    }

    private static void refusals() {
        says(0, "Refusals, the first that the call's words name");
        RoadsNotGoneBy x = new RoadsNotGoneBy();
        for (int i = 0; i < 5; i++) {
            x.life(0, 0, 0);
            feedAll(x, "takes 1" + END);
            x.text();
        }
        due("BAD ahead of FULL", x.life(0, 0, 12), BAD);
        for (int i = 0; i < 160; i++) {
            x.feed('@');
        }
        due("BAD ahead of FULL", x.feed(256), BAD);
        due("FULL ahead of a FAULT", x.text(), FULL);
        due("none such ahead of an empty JAR", x.spoon(5, 0), -1000);
        due("none such ahead of a missing SHEET", x.tells(0, 5, 0), -1002);
        due("what ahead of a missing SHEET", x.tells(0, 0, 8), -1002);
        x.sheet(1, 0, 40);
        due("what ahead of more than 30", x.tells(1, 0, 8), -1002);
        due("sort ahead of a size below 0", x.sheet(0, 3, -1), BAD);
        due("no SHEET ahead of a size below 0", x.sheet(4, 0, -1), BAD);
        due("missing ahead of outside", x.cell(0, 40, 0), -11);
        due("no SHEET ahead of missing", x.copy(0, 0, 4, 0, 0), BAD);
        x.sheet(2, 1, 40);
        due("missing ahead of outside", x.copy(0, 0, 1, 41, 0), -11);
        due("unlike ahead of outside", x.copy(1, 0, 2, 41, 0), -13);
        due("n ahead of missing", x.lives(0, 0, 0, 6), BAD);
        due("unlike ahead of outside", x.lives(1, 1, 41, 1), -13);
        due("k ahead of none such", x.taken(5, 6), BAD);

        says(0, "BAD (-2: a number is none such or not as told), STATE (-3), FULL (-4); the host's: -11 nothing where something is asked, "
            + "-12 a place outside, -13 a thing of another sort or KIND, -14 a size below 0.");
        due("BAD", BAD, -2);
        due("STATE", STATE, -3);
        due("FULL", FULL, -4);
        due("-11", x.cell(0, 0, 0), -11);
        due("-12", x.cell(1, 40, 0), -12);
        due("-13", x.taken(0, 1), -13);
        due("-14", x.sheet(0, 0, -1), -14);
    }

    // ---- ahead of promise 1: what the KINDS make of a text

    private static RoadsNotGoneBy oneOf(int kind, int number, int at, String takes, String puts, String feels) {
        RoadsNotGoneBy x = ruledBy(takes, puts, feels);
        x.life(kind, number, at);
        return x;
    }

    private static int takesOf(int kind, int number, int at, String takes) {
        return oneOf(kind, number, at, takes, "1", "1").told(0, 8);
    }

    private static int putsOf(int kind, int number, String puts) {
        return oneOf(kind, number, 11, "1", puts, "1").told(0, 9);
    }

    private static int feelsOf(int kind, int number, int eaten, String feels) {
        RoadsNotGoneBy x = oneOf(kind, number, 11, "1", "1", feels);
        x.set(6, 0, eaten);
        return x.tastes(0, 0);
    }

    private static void takes() {
        says(0, "LIFE: 0, if v is even, else 1;");
        String[] even = {"0", "2", "98", "-2", "-98"};
        String[] odd = {"1", "99", "-1", "-99", "-97"};
        for (int i = 0; i < 5; i++) {
            due(even[i], takesOf(0, 0, 0, even[i]), 0);
            due(odd[i], takesOf(0, 0, 0, odd[i]), 1);
        }
        due("NUMBER is nothing to a LIFE", takesOf(0, 4, 4, "0"), 0);

        says(0, "ENGINEER: as a LIFE, if the CROSSING isn't NUMBER, else ROAD 1;");
        int[][] places = {{0, 0, 1}, {0, 1, 0}, {9, 9, 1}, {9, 10, 0}, {9, 8, 0}, {1, 11, 0}};
        for (int[] p : places) {
            due("NUMBER " + p[0] + " at " + p[1], takesOf(1, p[0], p[1], "0"), p[2]);
            due("NUMBER " + p[0] + " at " + p[1] + ", odd", takesOf(1, p[0], p[1], "1"), 1);
        }

        says(0, "CLERGYMAN: that of which less is in the JAR, ROAD 0 by as much;");
        int[][] jars = {{0, 0, 0}, {1, 0, 1}, {0, 1, 0}, {999, 999, 0}, {999, 998, 1}, {998, 999, 0}};
        RoadsNotGoneBy x = oneOf(2, 3, 11, "1", "1", "1");
        for (int[] j : jars) {
            x.set(1, 22, j[0]);
            x.set(1, 23, j[1]);
            due(j[0] + " and " + j[1], x.told(0, 8), j[2]);
        }

        says(0, "GIRL: the other one than an ENGINEER, if MOOD is below 0, else as an ENGINEER;");
        int[][] moods = {{-99, 1}, {-1, 1}, {0, 0}, {1, 0}, {99, 0}};
        for (int[] m : moods) {
            x = oneOf(3, 3, 4, "0", "1", "1");
            x.set(5, 0, m[0]);
            due("MOOD " + m[0], x.told(0, 8), m[1]);
            x.set(3, 0, 4);
            due("MOOD " + m[0] + " at NUMBER", x.told(0, 8), 1 - m[1]);
        }

        says(0, "BISHOP: as a CLERGYMAN, if YEAR modulo 3 isn't 0, else ROAD 0;");
        x = oneOf(4, 3, 11, "1", "1", "1");
        x.set(1, 22, 1);
        int[][] years = {{0, 0}, {1, 1}, {2, 1}, {3, 0}, {4, 1}, {998, 1}, {999, 0}};
        for (int[] y : years) {
            x.set(2, 0, y[0]);
            due("YEAR " + y[0], x.told(0, 8), y[1]);
        }
        x.set(2, 0, 1);
        x.set(1, 23, 1);
        due("by as much", x.told(0, 8), 0);

        says(0, "WOMAN: ROAD NUMBER modulo 2.");
        for (int number = 0; number < 10; number++) {
            due("NUMBER " + number, takesOf(5, number, number, "" + (1 - number % 2)), number % 2);
        }
    }

    private static void putsBy() {
        says(0, "LIFE: v; ENGINEER: twice a LIFE's; CLERGYMAN: 1 more than a LIFE; GIRL: NUMBER more than an ENGINEER; "
            + "BISHOP: half (cut) of a CLERGYMAN's; WOMAN: 0.");
        int[] seven = {7, 14, 8, 23, 4, 0};
        for (int kind = 0; kind < 6; kind++) {
            due("7 by KIND " + kind, putsOf(kind, 9, "7"), seven[kind]);
        }

        says(0, "(0 .. 99, else the bound: laid once, on what comes out.)");
        String[] puts = {"0", "1", "49", "50", "98", "99"};
        int[][] come = {{0, 0, 1, 9, 0}, {1, 2, 2, 11, 1}, {49, 98, 50, 99, 25}, {50, 99, 51, 99, 25}, {98, 99, 99, 99, 49},
            {99, 99, 99, 99, 50}};
        for (int i = 0; i < puts.length; i++) {
            for (int kind = 0; kind < 5; kind++) {
                due(puts[i] + " by KIND " + kind, putsOf(kind, 9, puts[i]), come[i][kind]);
            }
            due(puts[i] + " by a WOMAN", putsOf(5, 9, puts[i]), 0);
        }
        due("GIRL: 98 and 1", putsOf(3, 1, "49"), 99);
        due("GIRL: 98 and 2", putsOf(3, 2, "49"), 99);
        due("GIRL: 98 and 0", putsOf(3, 0, "49"), 98);
        due("GIRL: 90 and 8", putsOf(3, 8, "45"), 98);

        says(0, "What puts tells is held 0 .. 99 ahead of what the KIND makes of it, and that again.");
        int[] atLeast = {0, 0, 1, 9, 0, 0};
        int[] atMost = {99, 99, 99, 99, 50, 0};
        for (int kind = 0; kind < 6; kind++) {
            due("-1 by KIND " + kind, putsOf(kind, 9, "-1"), atLeast[kind]);
            due("-9999 by KIND " + kind, putsOf(kind, 9, "-9999"), atLeast[kind]);
            due("100 by KIND " + kind, putsOf(kind, 9, "100"), atMost[kind]);
            due("9999 by KIND " + kind, putsOf(kind, 9, "9999"), atMost[kind]);
        }
    }

    private static void feels() {
        says(0, "LIFE: v; ENGINEER: v, 0 at least;");
        String[] v = {"-99", "-1", "0", "1", "99"};
        for (int i = 0; i < 5; i++) {
            int value = Integer.parseInt(v[i]);
            due("LIFE " + v[i], feelsOf(0, 9, 3, v[i]), value);
            due("ENGINEER " + v[i], feelsOf(1, 9, 3, v[i]), Math.max(0, value));
        }

        says(0, "CLERGYMAN: 0 less v, if EATEN is 3 or more, else as a LIFE;");
        int[][] eaten = {{0, 7}, {2, 7}, {3, -7}, {4, -7}, {999, -7}};
        for (int[] e : eaten) {
            due("EATEN " + e[0], feelsOf(2, 9, e[0], "7"), e[1]);
            due("EATEN " + e[0] + ", below 0", feelsOf(2, 9, e[0], "-7"), -e[1]);
        }

        says(0, "GIRL: twice an ENGINEER's;");
        due("99", feelsOf(3, 9, 3, "99"), 198);
        due("0", feelsOf(3, 9, 3, "0"), 0);
        due("-1", feelsOf(3, 9, 3, "-1"), 0);

        says(0, "BISHOP: as a CLERGYMAN, and NUMBER; WOMAN: 0.");
        due("EATEN 2", feelsOf(4, 9, 2, "99"), 108);
        due("EATEN 3", feelsOf(4, 9, 3, "99"), -90);
        due("EATEN 3, -99", feelsOf(4, 9, 3, "-99"), 108);
        due("NUMBER 0", feelsOf(4, 0, 2, "-99"), -99);
        due("WOMAN", feelsOf(5, 9, 3, "99"), 0);

        says(0, "What one FEELS isn't held; MOOD is.");
        RoadsNotGoneBy x = oneOf(3, 9, 0, "1", "1", "99");
        x.set(1, 0, 2);
        due("tastes", x.tastes(0, 0), 198);
        due("spoon", x.spoon(0, 0), 99);
        x.set(5, 0, -99);
        due("spoon", x.spoon(0, 0), 99);
    }

    // ---- ahead of promise 1: texts

    private static void tape() {
        says(0, "A TEXT is read from THE TAPE (160 bytes at most).");
        RoadsNotGoneBy x = new RoadsNotGoneBy();
        String most = "takes 1" + spaces(160 - 7 - END.length()) + END;
        due("160 bytes", feedAll(x, most), 160);
        due("a byte more", x.feed(';'), FULL);
        due("text", x.text(), 1);
        due("an empty TAPE again", x.feed(';'), 1);
        due("a fault at the last byte", read(spaces(159) + "@"), -259);
        due("too early behind the last byte", read("takes" + spaces(155)), -260);
        StringBuilder tokens = new StringBuilder("takes 1");
        while (tokens.length() < 160 - END.length() - 1) {
            tokens.append("+1");
        }
        String full = tokens + (tokens.length() < 160 - END.length() ? " " : "") + END;
        due("as many TOKENS as have room", full.length(), 160);
        stands(full);
        due("and what they tell", takesOfWhole(full), 1);
    }

    private static int takesOfWhole(String text) {
        RoadsNotGoneBy x = new RoadsNotGoneBy();
        feedAll(x, text);
        x.force(x.text());
        x.life(0, 0, 0);
        return x.told(0, 8);
    }

    private static void tokens() {
        says(0, "TOKENS, each as long as can be: WORDS (a .. z)");
        fault("", "takesjar", " 1");
        fault("takes ", "yearly", END);
        fault("takes ", "yea", END);
        fault("takes ", "notjar", END);
        fault("takes 1 ", "orjar", END);
        stands("takes1or 1and 1;puts(1)and(1);feels not(1)or-1;");
        fault("takes ", "z", END);
        fault("takes ", "a", END);
        fault("takes ", "jarz", END);
        fault("takes ", "ajar", END);
        for (String word : new String[] {"rossing", "xrossing", "crossinx", "far", "jax", "lumber", "numbex", "fear", "yeax", "food", "moox", "beaten", "eatex"}) {
            fault("takes ", word, END);
        }
        fault("", "makes", " 1" + END);
        fault("takes 1;", "cuts", " 1;feels 1;");
        fault("takes 1;puts 1;", "peels", " 1;");
        fault("takes 1 ", "ar", " 1" + END);
        fault("takes 1 ", "end", " 1" + END);
        fault("takes ", "dot", " 1" + END);
        fault("takes ", "{", END);
        fault("takes ", "`", END);
        fault("takes year", "Z", END);

        says(0, "NUMBERS (as many digits as stand there, 4 at most)");
        stands("takes 9999;puts 0000;feels 0;");
        fault("takes ", "10000", END);
        fault("takes ", "00000", END);
        fault("takes 1234 ", "5", END);
        fault("takes ", "/", END);
        fault("takes ", ":", END);
        due("0009 is 9", feelsOf(0, 0, 0, "0009"), 9);
        due("0098 is 98", feelsOf(0, 0, 0, "0098"), 98);
        due("9999", takesOf(0, 0, 0, "9999=9990+9"), 1);

        says(0, "SIGNS ( ) ; + - * < = ; blanks (32, 10) may stand between.");
        stands("\n \ntakes\n1 ; puts\n\n1 ; feels 1 ;\n ");
        for (int b = 0; b < 256; b++) {
            due("byte " + b + " behind a NUMBER", read("takes 1" + (char) b + END), behindANumber(b));
        }
        fault("takes 1 <", ">", "2" + END);
        fault("takes 1 <", "=", "2" + END);
    }

    // A ; then comes in the place of what must follow a sign between two; in all else the byte itself can't stand.
    private static int behindANumber(int b) {
        if (b == 32 || b == 10 || b >= '0' && b <= '9') {
            return 1;
        }
        return b == '+' || b == '-' || b == '*' || b == '<' || b == '=' || b == ';' ? -108 : -107;
    }

    private static void grammar() {
        says(0, "TEXT: takes E ; puts E ; feels E ;");
        stands("takes 1;puts 1;feels 1;");
        fault("", ";", "takes 1" + END);
        fault("", "puts", " 1;takes 1;feels 1;");
        fault("takes ", ";", "puts 1;feels 1;");
        fault("takes 1;", "feels", " 1;puts 1;");
        fault("takes 1 ", "puts", " 1;feels 1;");
        fault("takes 1;puts 1;", "puts", " 1;feels 1;");
        fault("takes 1;puts 1;feels 1;", "takes", " 1;");
        fault("takes 1;puts 1;feels 1;", ";", "");

        says(0, "E: AND { or AND }. AND: NOT { and NOT }.");
        stands("takes 1 or 1 or 1 and 1 and 1" + END);
        fault("takes 1 or ", ";", "puts 1;feels 1;");
        fault("takes 1 or ", "or", " 1" + END);
        fault("takes 1 and ", "or", " 1" + END);
        fault("takes ", "and", " 1" + END);
        due("and ahead of or", feelsOf(0, 0, 0, "1 or 1 and 0"), 1);
        due("and ahead of or", feelsOf(0, 0, 0, "0 and 1 or 1"), 1);

        says(0, "NOT: not NOT, or SUM, perhaps < or = and a SUM.");
        stands("takes not not 1<2" + END);
        fault("takes 1<2", "<", "3" + END);
        fault("takes 1=2", "=", "3" + END);
        fault("takes 1<2", "=", "3" + END);
        fault("takes 1<", "not", " 1" + END);
        fault("takes 1+", "not", " 1" + END);
        fault("takes ", "<", "1" + END);
        due("not of what is compared", feelsOf(0, 0, 0, "not 2=2"), 0);
        due("not 0 + 5 is not of the SUM", feelsOf(0, 0, 0, "not 0+5"), 0);
        due("SUMS on both sides", feelsOf(0, 0, 0, "1+1=3-1"), 1);

        says(0, "SUM: TERM { + or - TERM }. TERM: ONE { * ONE }.");
        due("from the left", feelsOf(0, 0, 0, "9-3-2"), 4);
        due("from the left", feelsOf(0, 0, 0, "9-3+2"), 8);
        due("* ahead of +", feelsOf(0, 0, 0, "2+3*4"), 14);
        due("* ahead of -", feelsOf(0, 0, 0, "20-3*4-1"), 7);
        fault("takes 1+", "+", "1" + END);
        fault("takes 1-", "*", "1" + END);
        fault("takes 1*", "*", "1" + END);
        fault("takes ", "+", "1" + END);

        says(0, "ONE: a NUMBER, a NAME, - ONE, ( E ).");
        stands("takes (1 or not 2)*-(3)--year" + END);
        due("- of ONE alone", feelsOf(0, 0, 0, "-2+5"), 3);
        due("- of ONE alone", feelsOf(0, 0, 0, "-2*5"), -10);
        due("- -", feelsOf(0, 0, 0, "--2"), 2);
        due("- ( )", feelsOf(0, 0, 0, "-(2+5)"), -7);
        fault("takes (", ")", END);
        fault("takes (1", ";", "puts 1;feels 1;");
        fault("takes 1", ")", END);
        fault("takes -", ";", "puts 1;feels 1;");
        fault("takes -", "not", " 1" + END);

        says(0, "NAMES are crossing jar number year mood eaten; takes, puts, feels, or, and, not are KEYS.");
        stands("takes crossing+jar+number+year+mood+eaten" + END);
        for (String key : new String[] {"takes", "puts", "feels", "or", "and"}) {
            fault("takes ", key, END);
        }
        reckoned();
    }

    private static void reckoned() {
        says(0, "An E is an int (32 bits, wrapping)");
        String two31 = "256*256*256*128";
        due("2147483648 is below 0", feelsOf(0, 0, 0, two31 + "<0"), 1);
        due("2147483647 is above 0", feelsOf(0, 0, 0, "0<" + two31 + "-1"), 1);
        due("-2147483648 is itself", feelsOf(0, 0, 0, "-(" + two31 + ")=" + two31), 1);
        due("-2147483648 less 1", feelsOf(0, 0, 0, "0<-(" + two31 + ")-1"), 1);
        due("2147483647 and 1", feelsOf(0, 0, 0, "(" + two31 + "-1)+1<0"), 1);
        due("4294967296 is 0", feelsOf(0, 0, 0, two31 + "*2"), 0);
        due("4294967301 is 5", feelsOf(0, 0, 0, two31 + "*2+5"), 5);
        due("-2147483648 < 2147483647, no difference", feelsOf(0, 0, 0, "-(" + two31 + ")<" + two31 + "-1"), 1);

        says(0, "of or, and, not, <, = 1 or 0 (what is not 0 is true)");
        String[] one = {"7 or 0", "0 or -7", "2 or 4", "2 and 4", "-1 and -2", "not 0", "1<2", "-1<0", "2=2", "0=0", "not not 7"};
        String[] nought = {"0 or 0", "7 and 0", "0 and 7", "not 7", "not -1", "2<2", "2<1", "2=3", "not not 0", "0<-1"};
        for (String e : one) {
            due(e, feelsOf(0, 0, 0, e), 1);
        }
        for (String e : nought) {
            due(e, feelsOf(0, 0, 0, e), 0);
        }
    }

    private static void faults() {
        says(0, "FAULT: the place of the first byte of the first TOKEN that can't stand there");
        fault("", "takis", " 1 @");
        fault("takes 1 ", "22", " @");
        fault("  takes\n1\n", "year", " 12345");
        fault("takes 1;puts 1;feels 1 ", "1", ";");

        says(0, "(the text's size, if it ends too early)");
        String[] early = {"", "takes", "takes 1", "takes 1;", "takes 1;puts", "takes 1;puts 1", "takes 1;puts 1;", "takes 1;puts 1;feels",
            "takes 1;puts 1;feels 1", "takes (", "takes (1", "takes 1 or", "takes 1 and", "takes not", "takes 1<", "takes 1=", "takes 1+",
            "takes 1-", "takes 1*", "takes -", " ", "\n\n\n", "takes 1;puts 1;feels 1 \n "};
        for (String e : early) {
            fault(e, "", "");
        }

        says(0, "also of a byte that begins none, a WORD that is neither KEY nor NAME, a NUMBER that is too long");
        for (int b : new int[] {0, 9, 11, 13, 31, 33, 44, 46, 47, 58, 62, 64, 65, 90, 91, 96, 123, 127, 128, 255}) {
            fault("takes ", "" + (char) b, "1" + END);
        }
        fault("takes 1;puts 1;feels 1;", "@", "");
        fault("takes ", "lives", END);
        fault("takes 1;puts 1;feels 1;", "x", "");
        fault("takes 1 ", "x", "");
        fault("takes 1;puts 1;feels 1; ", "12345", "");
        fault("takes 1+", "98765432109876543210", END);
    }

    private static void openOnes() {
        says(0, "a ( , a not, a - ahead of a ONE while 5 of these are open");
        stands("takes (((((1)))))" + END);
        stands("takes not not not not not 1" + END);
        stands("takes -----1" + END);
        stands("takes (not (--1))" + END);
        fault("takes (((((", "(", "1))))))" + END);
        fault("takes not not not not not ", "not", " 1" + END);
        fault("takes -----", "-", "1" + END);
        fault("takes -----", "(", "1)" + END);
        fault("takes (((((", "not", " 1)))))" + END);
        fault("takes (((((", "-", "1)))))" + END);
        fault("takes not not not not not ", "(", "1)" + END);
        fault("takes not not not not not ", "-", "1" + END);
        fault("takes (not (not -", "(", "1)))" + END);
        fault("takes (((((1)))));puts (((((", "(", "");

        says(0, "(a ( till its ) , not and - till what they belong to ends)");
        stands("takes (((((1)))))*(((((1)))))" + END);
        stands("takes ((((1)+(1))))" + END);
        stands("takes (((((1))))-((((1)))))" + END);
        fault("takes (1)+(((((", "(", "1");
        stands("takes -----1*-----1+-----1" + END);
        stands("takes (((((1-1-1-1-1-1-1)))))" + END);
        stands("takes not not not not not 1 and not not not not not 1 or not not not not not 1" + END);
        stands("takes not 1<----1" + END);
        fault("takes not 1<----", "-", "1" + END);
        fault("takes not ----1+----", "-", "1" + END);
        stands("takes not 1 and -----1" + END);
        stands("takes not 1 or (((((1)))))" + END);
        fault("takes -(1+---", "-", "1)" + END);
        stands("takes -(1+---1)-----1" + END);
        stands("takes -----1;puts not not not not not 1;feels (((((1)))));");
    }

    private static void namesAndBounds() {
        says(0, "There are 6 TEXTS at most, TEXT 0 with them.");
        RoadsNotGoneBy x = new RoadsNotGoneBy();
        due("count", x.count(3), 1);
        for (int i = 1; i < 6; i++) {
            feedAll(x, "takes 1" + END);
            due("text", x.text(), i);
        }
        feedAll(x, "takes 1" + END);
        due("a seventh", x.text(), FULL);
        due("count", x.count(3), 6);

        says(0, "crossing: the one one is AT; jar: of takes, puts what both JARS of that CROSSING have, together, of feels what the JAR has of "
            + "which one eats; number: NUMBER; year: YEAR; mood: MOOD; eaten: EATEN.");
        String[] takes = {"crossing=11", "jar=1998", "number=9", "year=999", "mood=-99", "eaten=999"};
        for (String t : takes) {
            due(t, atTheBounds(t, t, "1").told(0, 8), 1);
            due(t, atTheBounds("0", t, "1").told(0, 9), 1);
        }
        String[] feels = {"crossing=11", "jar=999", "number=9", "year=999", "mood=-99", "eaten=999"};
        for (String f : feels) {
            due(f, atTheBounds("0", "0", f).tastes(0, 23), 1);
        }
        due("an empty JAR elsewhere", atTheBounds("0", "0", "jar=0").tastes(0, 0), 1);

        says(0, "takes, feels (-99 .. 99, else the bound), puts (0 .. 99, else the bound).");
        String[] e = {"100", "-100", "99", "-99", "9999*9999*9999", "98", "-98"};
        int[] road = {1, 1, 1, 1, 1, 0, 0};
        int[] put = {99, 0, 99, 0, 0, 98, 0};
        int[] felt = {99, -99, 99, -99, -99, 98, -98};
        int wraps = 9999 * 9999 * 9999;
        put[4] = wraps < 0 ? 0 : 99;
        felt[4] = wraps < 0 ? -99 : 99;
        for (int i = 0; i < e.length; i++) {
            due("takes " + e[i], takesOf(0, 0, 0, e[i]), road[i]);
            due("puts " + e[i], putsOf(0, 0, e[i]), put[i]);
            due("feels " + e[i], feelsOf(0, 0, 0, e[i]), felt[i]);
        }

        says(0, "TEXT 0, at first THE RULE, is: takes crossing + year ; puts 2 ; feels 5 ;");
        x = new RoadsNotGoneBy();
        x.life(0, 0, 11);
        due("THE RULE", x.count(5), 0);
        due("11 and 0", x.told(0, 8), 1);
        due("puts", x.told(0, 9), 2);
        due("feels", x.tastes(0, 0), 5);
        x.set(2, 0, 1);
        due("11 and 1", x.told(0, 8), 0);
        x.set(2, 0, 999);
        due("11 and 999: 99 at most", x.told(0, 8), 1);
    }

    // KIND LIFE, with all that has a bound at it.
    private static RoadsNotGoneBy atTheBounds(String takes, String puts, String feels) {
        RoadsNotGoneBy x = oneOf(0, 9, 11, takes, puts, feels);
        x.set(1, 22, 999);
        x.set(1, 23, 999);
        x.set(2, 0, 999);
        x.set(5, 0, -99);
        x.set(6, 0, 999);
        return x;
    }

    // ---- ahead of promise 1: years, spoons

    private static void yearsAndSpoons() {
        says(0, "A YEAR: of LIVES by numbers (told as all is then)");
        RoadsNotGoneBy x = ruledBy("jar=3", "3", "1");
        x.life(0, 0, 4);
        x.life(0, 0, 4);
        x.life(2, 0, 4);
        due("year", x.year(), 3 + 3 + 4);
        due("the first sees empty JARS", x.told(0, 4), 5);
        due("the second 3 in JAR 9", x.told(1, 4), 6);
        due("the third 3 in both", x.told(2, 4), 5);
        due("JAR 8", x.told(8, 1), 3);
        due("JAR 9", x.told(9, 1), 7);

        says(0, "the JAR of the other ROAD of that CROSSING is so much more (999 at most)");
        int[][] jars = {{0, 2}, {996, 998}, {997, 999}, {998, 999}, {999, 999}};
        for (int[] j : jars) {
            x = new RoadsNotGoneBy();
            x.life(0, 0, 0);
            x.set(1, 1, j[0]);
            due("year from " + j[0], x.year(), j[1]);
            due("JAR 1 had " + j[0], x.told(1, 1), j[1]);
        }

        says(0, "one is AT the CROSSING the ROAD leads TO. YEAR is 1 more.");
        x = new RoadsNotGoneBy();
        x.life(5, 0, 11);
        x.life(5, 1, 11);
        x.set(2, 0, 998);
        due("year", x.year(), 0);
        due("round", x.told(0, 4), 0);
        due("round", x.told(1, 4), 1);
        due("YEAR", x.told(0, 2), 999);

        says(0, "A SPOON of a JAR, of one: it has any; what one FEELS is told, MOOD is so much more (-99 .. 99, else the bound)");
        int[][] moods = {{0, 5}, {93, 98}, {94, 99}, {95, 99}, {99, 99}, {-99, -94}};
        for (int[] m : moods) {
            x = new RoadsNotGoneBy();
            x.life(0, 0, 0);
            x.set(1, 23, 1);
            x.set(5, 0, m[0]);
            due("spoon at MOOD " + m[0], x.spoon(0, 23), m[1]);
            due("MOOD", x.told(0, 5), m[1]);
        }
        x = ruledBy("0", "0", "-5");
        x.life(0, 0, 0);
        x.set(1, 0, 9);
        x.set(5, 0, -93);
        due("sour", x.spoon(0, 0), -98);
        due("at the bound", x.spoon(0, 0), -99);
        due("at the bound", x.spoon(0, 0), -99);

        says(0, "EATEN 1 more (999 at most), the JAR 1 less.");
        x.set(6, 0, 998);
        x.spoon(0, 0);
        due("EATEN", x.told(0, 6), 999);
        x.spoon(0, 0);
        due("EATEN", x.told(0, 6), 999);
        due("the JAR", x.told(0, 1), 4);
        x.set(1, 0, 1);
        x.spoon(0, 0);
        due("the JAR", x.told(0, 1), 0);
        due("no spoon more", x.spoon(0, 0), -1003);
        due("the JAR", x.told(0, 1), 0);
    }

    // ---- ahead of promise 1: what would be

    private static void whatWouldBe() {
        says(0, "n YEARS (0 .. 60), in thought (there YEAR may pass 999)");
        RoadsNotGoneBy x = ruledBy("year=1000", "1", "1");
        x.life(0, 0, 0);
        x.set(2, 0, 999);
        due("run 0", x.run(0, 0, 0), 0);
        due("run 1", x.run(0, 1, 0), 1);
        due("run 2, in YEAR 1000", x.run(0, 2, 0), 3);
        due("run 60", x.run(0, 60, 0), 1);
        due("run 60", x.run(0, 60, 2), 60);
        due("run 61", x.run(0, 61, 0), BAD);
        due("run -1", x.run(0, -1, 0), BAD);
        due("YEAR", x.count(2), 999);

        says(0, "CROSSINGS (bits) one is AT now or comes to.");
        x = new RoadsNotGoneBy();
        x.life(5, 0, 11);
        due("now", x.run(0, 0, 1), 1 << 11);
        due("and 0", x.run(0, 1, 1), 1 << 11 | 1);
        due("all but 10", x.run(0, 10, 1), 0xfff - (1 << 10));
        due("all", x.run(0, 11, 1), 0xfff);
        due("all", x.run(0, 60, 1), 0xfff);

        says(0, "OTHERWISE (one, n 1 .. 40, k 0 .. n less 1): where one would be AT behind n YEARS");
        int[][] asked = {{0, 0, BAD}, {1, 0, 1}, {1, 1, BAD}, {1, -1, BAD}, {40, 0, 4}, {40, 39, 4}, {40, 40, BAD}, {41, 0, BAD}, {-1, -1, BAD}};
        for (int[] o : asked) {
            due("otherwise(0, " + o[0] + ", " + o[1] + ")", x.otherwise(0, o[0], o[1]), o[2]);
        }

        says(0, "(and the JAR of the one not taken then is so much more); all else goes on as it goes then.");
        x = ruledBy("1", "5", "1");
        x.life(0, 0, 0);
        x.life(2, 0, 0);
        x.set(0, 0, 0);
        x.set(1, 0, 2);
        x.set(1, 1, 4);
        // LIFE takes ROAD 1, JAR 0 has 7, so that the CLERGYMAN takes ROAD 1 (4); turned, JAR 1 has 9, and he takes ROAD 0 (2).
        due("as it goes", x.run(1, 1, 0), 2);
        due("turned himself", x.otherwise(1, 1, 0), 0);
        due("the other one turned", x.otherwise(0, 1, 0), 0);
        due("turned, then ROAD 1", x.otherwise(0, 2, 0), 2);
        x = ruledBy("jar=5", "5", "1");
        x.life(0, 0, 0);
        x.set(0, 0, 0);
        x.set(0, 1, 0);
        x.set(0, 1, 7);
        // Turned in YEAR 0 one is at 7 by ROAD 1; not turned one is at 0 with 5 in JAR 1, and takes ROAD 1 then.
        due("turned", x.otherwise(0, 1, 0), 7);
        due("turned in the next one", x.otherwise(0, 2, 1), 0);
        roadsWhoeverGoes();
        aloneAndTwo();
        closedAndSweet();
    }

    private static void roadsWhoeverGoes() {
        says(0, "TURNS (a CROSSING, a CROSSING, n 0 .. 30): from the one to the other by just n ROADS, whoever goes: in how many ways");
        RoadsNotGoneBy x = new RoadsNotGoneBy();
        due("0 ROADS", x.turns(11, 11, 0), 1);
        due("0 ROADS", x.turns(11, 0, 0), 0);
        due("1 ROAD", x.turns(11, 0, 1), 1);
        due("1 ROAD", x.turns(11, 1, 1), 1);
        due("1 ROAD", x.turns(11, 2, 1), 0);
        due("31 ROADS", x.turns(0, 0, 31), NO);
        due("-1 ROADS", x.turns(0, 0, -1), NO);
        x.set(0, 22, 11);
        due("one way to stay", x.turns(11, 11, 30) >= 1 ? 1 : 0, 1);
        x.set(0, 23, 11);
        due("two by each ROAD", x.turns(11, 11, 30), 1073741824L);
        due("never away", x.turns(11, 0, 30), 0);

        says(0, "how LIKELY, were each ROAD as likely: ways of all 2 to the n.");
        due("sure", x.likely(11, 11, 30, 0), 1);
        due("sure", x.likely(11, 11, 30, 1), 1);
        due("never", x.likely(11, 0, 30, 0), 0);
        due("never", x.likely(11, 0, 30, 1), 1);
        due("0 ROADS", x.likely(3, 3, 0, 1), 1);
        due("0 ROADS", x.likely(3, 3, 0, 0), 1);
        x = new RoadsNotGoneBy();
        x.set(0, 0, 0);
        x.set(0, 1, 5);
        for (int c = 2; c < 12; c++) {
            x.set(0, 2 * c, 5);
            x.set(0, 2 * c + 1, 5);
        }
        due("one of all", x.likely(0, 0, 30, 0), 1);
        due("one of all", x.likely(0, 0, 30, 1), 1073741824L);
        due("all the others", x.likely(0, 5, 30, 0), 1073741823L);
        due("all the others", x.likely(0, 5, 30, 1), 1073741824L);
    }

    private static void aloneAndTwo() {
        says(0, "FEWEST (one, a CROSSING, n 0 .. 30): went one alone, nothing put by, YEAR going on");
        RoadsNotGoneBy x = ruledBy("jar<3 or year=1000", "50", "1");
        x.life(0, 0, 0);
        x.life(0, 0, 0);
        due("the other one puts by nothing", x.fewest(0, 2, 1), 0);
        x.set(0, 1, 0);
        due("nor has one put by", x.fewest(0, 0, 30), 0);
        due("-1", x.fewest(0, 0, -1), BAD);
        due("31", x.fewest(0, 0, 31), BAD);
        x = ruledBy("year=1000", "50", "1");
        x.life(0, 0, 0);
        x.set(2, 0, 999);
        due("YEAR passes 999", x.fewest(0, 3, 2), 0);

        says(0, "the fewest of n YEARS in which one would have to take another ROAD than one TAKES where one is AT then, to be AT that CROSSING "
            + "behind n YEARS; NONE: by none.");
        x = new RoadsNotGoneBy();
        x.life(5, 0, 0);
        int[][] on = {{0, 0, 0}, {1, 0, NONE}, {1, 1, 0}, {2, 1, 1}, {3, 1, NONE}, {0, 6, 6}, {11, 6, 5}, {5, 6, NONE}, {6, 6, 0}, {6, 30, 0}, {5, 30, 11},
            {7, 30, 1}};
        for (int[] o : on) {
            due("fewest(0, " + o[0] + ", " + o[1] + ")", x.fewest(0, o[0], o[1]), o[2]);
        }
        x.set(0, 0, 2);
        due("both ROADS TO it: none to turn", x.fewest(0, 2, 1), 0);
        // From 0 by ROAD 0 to 1, from there by ROAD 1 to 3, from there by ROAD 1 to 5; turned, from 1 to 2, from 3 to 4.
        x = ruledBy("crossing", "0", "0");
        x.life(0, 0, 0);
        int[][] odd = {{3, 2, 0}, {5, 3, 0}, {2, 2, 1}, {2, 1, 1}, {4, 3, 1}, {4, 2, 2}, {3, 3, 1}, {6, 3, 3}, {1, 1, 0}, {0, 1, NONE}};
        for (int[] o : odd) {
            due("fewest(0, " + o[0] + ", " + o[1] + "), where CROSSING is odd", x.fewest(0, o[0], o[1]), o[2]);
        }
        x = ruledBy("1", "0", "0");
        x.life(0, 0, 3);
        due("ROAD 1", x.fewest(0, 5, 1), 0);
        due("ROAD 0 of 3, turned", x.fewest(0, 4, 1), 1);
        x.set(0, 8, 11);
        due("ROAD 0 of 4, turned", x.fewest(0, 11, 2), 2);

        says(0, "MEET (two): behind how many YEARS (0 .. 60) both are AT one CROSSING first; NONE.");
        x = new RoadsNotGoneBy();
        x.life(5, 0, 3);
        x.life(5, 1, 3);
        due("at once", x.meet(0, 1), 0);
        x.set(4, 1, 4);
        due("11 behind", x.meet(0, 1), 11);
        due("11 behind", x.meet(1, 0), 11);
        x.set(3, 1, 0);
        due("never", x.meet(0, 1), NONE);
        due("behind 60", meetsBehind(60), 60);
        due("behind 61", meetsBehind(61), NONE);
    }

    // One stays at 0, and takes the ROAD to 5 only in the last YEAR told; the other one stays at 5.
    private static int meetsBehind(int years) {
        RoadsNotGoneBy x = ruledBy("number=1 and year=" + (years - 1), "0", "0");
        x.life(0, 1, 0);
        x.life(0, 0, 5);
        x.set(0, 0, 0);
        x.set(0, 1, 5);
        x.set(0, 10, 5);
        return x.meet(0, 1);
    }

    private static void closedAndSweet() {
        says(0, "SHUT (n 0 .. 40): the CROSSING such that, led all ROADS TO it TO the next one (round) instead, most would be in all JARS, together, "
            + "behind n YEARS, if more than so; of like ones the first; NONE.");
        RoadsNotGoneBy x = ruledBy("0", "crossing=0", "1");
        x.life(0, 0, 11);
        due("-1", x.shut(-1, 0), BAD);
        due("41", x.shut(41, 0), BAD);
        due("0 YEARS", x.shut(0, 0), NONE);
        due("13 YEARS: one skips 1, and is at 0 sooner; one who skips 11 isn't the first", x.shut(13, 0), 1);
        due("13 YEARS", x.shut(13, 1), 2);
        due("35 YEARS", x.shut(35, 0), 1);
        due("35 YEARS", x.shut(35, 1), 4);
        due("40 YEARS: by none more", x.shut(40, 0), NONE);
        due("40 YEARS", x.shut(40, 1), 4);
        x.set(0, 22, 11);
        due("11 leads to 11, shut it leads to 0", x.shut(2, 0), 11);
        due("once at 0", x.shut(2, 1), 1);
        x.set(0, 22, 5);
        due("none is better", x.shut(1, 0), NONE);
        x = ruledBy("0", "crossing=1", "1");
        x.life(0, 0, 11);
        x.set(0, 2, 1);
        due("0 shut, one is at 1 sooner", x.shut(2, 0), 0);
        due("0 shut", x.shut(2, 1), 1);

        says(0, "SPOON FOR (one): the JAR that has any by a spoon of which one FEELS best now; of like ones the first; NONE; how.");
        x = ruledBy("0", "0", "jar-50");
        x.life(0, 0, 0);
        due("no JAR has any", x.best(0, 0), NONE);
        x.set(1, 23, 1);
        due("the only one, sour", x.best(0, 0), 23);
        due("how", x.best(0, 1), -49);
        x.set(1, 12, 999);
        x.set(1, 7, 149);
        x.set(1, 5, 148);
        due("99 both", x.best(0, 0), 7);
        due("how", x.best(0, 1), 99);
        x.set(1, 0, 998);
        due("JAR 0", x.best(0, 0), 0);
        x.set(1, 0, 0);

        says(0, "SHELF: the JAR that has most; of like ones the first; NONE: all are empty.");
        due("most", x.best(0, 2), 12);
        x.set(1, 20, 999);
        due("of like ones the first", x.best(0, 2), 12);
        x.set(1, 0, 999);
        due("of like ones the first", x.best(0, 2), 0);
        for (int jar : new int[] {0, 5, 7, 12, 20}) {
            x.set(1, jar, 0);
        }
        due("1", x.best(0, 2), 23);
        x.set(1, 23, 0);
        due("all are empty", x.best(0, 2), NONE);
    }

    // ---- ahead of promise 1: what is told, drawn, kept, laid on sheets

    private static void toldAndDrawn() {
        says(0, "a SHEET tells where one is AT behind 1, 2, .. YEARS (30 at most): the first (from 0) that is otherwise; NONE;");
        RoadsNotGoneBy x = new RoadsNotGoneBy();
        x.life(5, 0, 0);
        x.film(0, 0, 30);
        due("30, as told", x.tells(0, 0, 0), NONE);
        x.cell(0, 29, 0);
        due("the last is otherwise", x.tells(0, 0, 0), 29);
        x.cell(0, 0, 2);
        due("the first is otherwise", x.tells(0, 0, 0), 0);
        x.sheet(0, 0, 31);
        due("31", x.tells(0, 0, 0), -1003);
        x.sheet(0, 0, 0);
        due("0", x.tells(0, 0, 0), NONE);

        says(0, "KINDS (bits 0 .. 5), NUMBERS (bits 0 .. 9), CROSSINGS (bits) one could be AT now, MOODS (of -99 .. 99: how many, the least), TEXTS "
            + "(bits), were they THE RULE, by which all would be so; LIVES (bits) of whom it is so.");
        int[] whole = {0, 63, 1023, 4095, 199, -99, 1, 1};
        for (int what = 1; what < 8; what++) {
            due("all of an empty SHEET, what " + what, x.tells(0, 0, what), whole[what]);
        }
        cells(x, 1, 2, 12);
        int[] none = {0, 0, 0, 0, 0, -100, 0, 0};
        for (int what = 1; what < 8; what++) {
            due("none comes to 12, what " + what, x.tells(1, 0, what), none[what]);
        }
        onlyOne();

        says(0, "DRAWN by a SEED: n YEARS (0 .. 40) of one, in each of which one takes ROAD (z >>> 9) % 2, z being z * 1103515245 + 12345 (an int; "
            + "SEED at first) anew for each;");
        x = new RoadsNotGoneBy();
        x.life(5, 0, 11);
        due("0 YEARS", x.drawn(7, 0, 0), 11);
        due("-1", x.drawn(7, 0, -1), BAD);
        due("41", x.drawn(7, 0, 41), BAD);
        for (int seed : new int[] {0, 1, 2, -1, GREATEST, LEAST}) {
            due("1 YEAR by " + seed, x.drawn(seed, 0, 1), (12 + (seed * 1103515245 + 12345 >>> 9) % 2) % 12);
            due("40 YEARS by " + seed, x.drawn(seed, 0, 40), walked(seed, 11, 40));
        }

        says(0, "nobody else goes, nothing is put by: where one is AT then.");
        x.life(2, 0, 3);
        x.drawn(3, 1, 40);
        due("JARS", x.count(1), 0);
        due("AT", x.told(1, 4), 3);
        due("YEAR", x.count(2), 0);

        says(0, "IN m seeds (1 .. 40), SEED and each 1 more (an int), 8 YEARS: of these those by which that is a told CROSSING.");
        due("m 0", x.chance(0, 0, 0, 0, 0), NO);
        due("m 41", x.chance(0, 41, 0, 0, 0), NO);
        due("m 1", x.chance(5, 1, 0, walked(5, 11, 8), 0), 1);
        due("m 1", x.chance(5, 1, 0, walked(5, 11, 8), 1), 1);
        chances(x, GREATEST - 10, 40);
        chances(x, LEAST, 40);
        chances(x, -20, 39);
    }

    // SHEETS that are so by one of them alone: the first and the last of each.
    private static void onlyOne() {
        RoadsNotGoneBy x = new RoadsNotGoneBy();
        x.life(5, 0, 0);
        for (int at = 0; at < 12; at += 11) {
            cells(x, 0, 0, (at + 1) % 12);
            due("from " + at, x.tells(0, 0, 3), 1 << at);
        }
        x = ruledBy("number=9", "0", "0");
        x.life(0, 0, 0);
        cells(x, 0, 0, 2);
        due("NUMBER 9", x.tells(0, 0, 2), 1 << 9);
        x = ruledBy("number=0", "0", "0");
        x.life(0, 5, 0);
        cells(x, 0, 0, 2);
        due("NUMBER 0", x.tells(0, 0, 2), 1);
        moodAlone("mood=-99", 1, -99);
        moodAlone("mood=99", 1, 99);
        moodAlone("mood<0", 99, -99);
        moodAlone("0<mood", 99, 1);
        moodAlone("mood", 100, -99);
        moodsOfAGirl();
        // Only by MOOD 5 or 7 the JAR that was not taken in the first YEAR has as much as leads from 0 to 2 in the second.
        x = ruledBy("jar=5", "mood", "0");
        feedAll(x, "takes jar=7;puts mood;feels 0;");
        x.text();
        x.life(0, 0, 0);
        x.set(0, 0, 0);
        cells(x, 0, 0, 0, 2);
        due("MOODS by puts", x.tells(0, 0, 4), 1);
        due("MOODS by puts", x.tells(0, 0, 5), 5);
        x.force(2);
        due("MOODS by puts", x.tells(0, 0, 4), 1);
        due("MOODS by puts", x.tells(0, 0, 5), 7);
        x = ruledBy("1", "0", "0");
        for (int i = 2; i < 6; i++) {
            feedAll(x, (i == 5 ? "takes 0" : "takes 1") + END);
            x.text();
        }
        x.life(0, 0, 1);
        x.life(0, 0, 2);
        x.life(0, 0, 3);
        x.life(0, 0, 4);
        x.life(0, 0, 0);
        cells(x, 0, 0, 1);
        due("TEXTS 0 and 5 lead from 0 to 1", x.tells(0, 4, 6), 1 | 1 << 5);
        x.force(5);
        due("LIVES: the last", x.tells(0, 0, 7), 1 << 4);
        cells(x, 0, 0, 2);
        due("LIVES: the first", x.tells(0, 4, 7), 1);
        x = ruledBy("0", "0", "0");
        x.life(3, 1, 0);
        x.set(1, 0, 5);
        cells(x, 0, 0, 2);
        due("by an odd NUMBER as a WOMAN, by JAR 1 as a CLERGYMAN, not as a BISHOP in YEAR 0", x.tells(0, 0, 1), 1 << 5 | 1 << 2);
        x.set(3, 0, 0);
        cells(x, 0, 0, 1);
        due("a LIFE, a BISHOP, a WOMAN", x.tells(0, 0, 1), 1 | 1 << 4 | 1 << 5);
    }

    private static void moodsOfAGirl() {
        RoadsNotGoneBy x = new RoadsNotGoneBy();
        x.life(3, 9, 0);
        cells(x, 0, 0, 1);
        due("a GIRL not below 0", x.tells(0, 0, 4), 100);
        due("a GIRL not below 0", x.tells(0, 0, 5), 0);
        cells(x, 0, 0, 2);
        due("a GIRL below 0", x.tells(0, 0, 4), 99);
        due("a GIRL below 0", x.tells(0, 0, 5), -99);
    }

    private static void moodAlone(String takes, int many, int least) {
        RoadsNotGoneBy x = ruledBy(takes, "mood", "0");
        x.life(0, 0, 0);
        cells(x, 0, 0, 2);
        due(takes, x.tells(0, 0, 4), many);
        due(takes, x.tells(0, 0, 5), least);
    }

    private static int walked(int seed, int at, int n) {
        int z = seed;
        int where = at;
        for (int i = 0; i < n; i++) {
            z = z * 1103515245 + 12345;
            where = (where + 1 + (z >>> 9) % 2) % 12;
        }
        return where;
    }

    private static void chances(RoadsNotGoneBy x, int seed, int m) {
        for (int to = 0; to < 12; to++) {
            int hits = 0;
            for (int i = 0; i < m; i++) {
                hits += walked(seed + i, 11, 8) == to ? 1 : 0;
            }
            int common = m;
            while (hits % common != 0 || m % common != 0) {
                common--;
            }
            due("above, to " + to, x.chance(seed, m, 0, to, 0), hits / common);
            due("below, to " + to, x.chance(seed, m, 0, to, 1), m / common);
        }
    }

    private static void sheetsAtFirst() {
        says(0, "SHEETS 0 .. 3 are rows of numbers, or missing (as all are at first): of sort 0 bytes, 1 shorts, 2 ints.");
        RoadsNotGoneBy x = new RoadsNotGoneBy();
        for (int s = 0; s < 4; s++) {
            due("missing", x.cell(s, 0, 0), -11);
        }
        due("SHEET -1", x.cell(-1, 0, 0), BAD);
        due("SHEET 4", x.cell(4, 0, 0), BAD);
        due("sort 3", x.sheet(3, 3, 0), BAD);
        due("sort 2", x.sheet(3, 2, 0), 1);
        due("sort 0", x.sheet(0, 0, 0), 1);

        says(0, "A missing SHEET is -11 ahead of a sort.");
        due("copy", x.copy(1, 0, 0, 0, 0), -11);
        due("copy", x.copy(0, 0, 1, 0, 0), -11);
        for (int sort = 0; sort < 3; sort++) {
            due("lives", x.lives(1, sort, 0, 1), -11);
        }
    }

    // ---- promises 1 to 5

    private static void newObject() {
        says(1, "Empty JARS, no LIVES.");
        RoadsNotGoneBy x = new RoadsNotGoneBy();
        for (int jar = 0; jar < 24; jar++) {
            due("JAR " + jar, x.told(jar, 1), 0);
        }
        due("LIVES", x.count(0), 0);
        for (int c = 0; c < 12; c++) {
            due("at " + c, x.told(c, 10), 0);
        }
        due("told of 0", x.told(0, 7), -1000);
        due("no IMAGE", x.back(), STATE);
        due("an empty TAPE", x.count(4), 0);
        due("one of its own", new RoadsNotGoneBy().count(0), 0);
    }

    private static void setAndTold() {
        says(2, "TO which CROSSING a ROAD leads (what 0; of: 2 times the CROSSING, and the ROAD), what a JAR has (1), YEAR (2; of does not matter), "
            + "NUMBER (3), AT (4), MOOD (5), EATEN (6) of one of LIVES becomes v: what it was.");
        RoadsNotGoneBy x = new RoadsNotGoneBy();
        x.life(3, 4, 5);
        x.life(3, 4, 5);
        int[][] sets = {{0, 0, 11, 1, 0}, {0, 23, 0, 1, 11}, {1, 0, 999, 0, 1}, {1, 23, 999, 0, 1}, {3, 0, 0, 4, 9}, {3, 1, 9, 4, 0}, {4, 0, 0, 5, 11},
            {4, 1, 11, 5, 0}, {5, 0, -99, 0, 99}, {5, 1, 99, 0, -99}, {6, 0, 999, 0, 1}, {6, 1, 999, 0, 1}};
        for (int[] s : sets) {
            due("set(" + s[0] + ", " + s[1] + ", " + s[2] + ")", x.set(s[0], s[1], s[2]), s[3]);
            due("set(" + s[0] + ", " + s[1] + ", " + s[4] + ")", x.set(s[0], s[1], s[4]), s[2]);
            due("told", x.told(s[1], s[0]), s[4]);
        }
        int[] ofs = {0, 5, -1, 24, LEAST, GREATEST};
        for (int i = 0; i < ofs.length; i++) {
            due("set(2, " + ofs[i] + ", ..)", x.set(2, ofs[i], 100 + i), i == 0 ? 0 : 99 + i);
            due("told(" + ofs[i] + ", 2)", x.told(ofs[i], 2), 100 + i);
        }

        says(2, "-1000: none such, v.");
        int[] bounds = {11, 999, 999, 9, 11, 99, 999};
        int[] least = {0, 0, 0, 0, 0, -99, 0};
        int[] many = {24, 24, GREATEST, 2, 2, 2, 2};
        for (int what = 0; what < 7; what++) {
            int was = x.told(0, what);
            for (int v : new int[] {least[what] - 1, bounds[what] + 1, LEAST, GREATEST}) {
                due("set(" + what + ", 0, " + v + ")", x.set(what, 0, v), -1000);
            }
            due("told(0, " + what + ")", x.told(0, what), was);
            if (what != 2) {
                for (int of : new int[] {-1, many[what], LEAST, GREATEST}) {
                    due("set(" + what + ", " + of + ", 0)", x.set(what, of, 0), -1000);
                }
            }
        }
        for (int what : new int[] {-1, 7, 8, 9, 10, LEAST, GREATEST}) {
            due("set(" + what + ", 0, 0)", x.set(what, 0, 0), -1000);
        }

        says(4, "What 0 .. 6 as of set(), 7 KIND, 8 which ROAD one TAKES, 9 how much one PUTS BY of one of LIVES; 10 who are AT a CROSSING (bits).");
        x = new RoadsNotGoneBy();
        for (int kind = 0; kind < 5; kind++) {
            x.life(kind, 2, kind < 3 ? 11 : 0);
        }
        int[] roads = {1, 1, 0, 0, 0};
        int[] puts = {2, 4, 3, 6, 1};
        for (int one = 0; one < 5; one++) {
            due("KIND", x.told(one, 7), one);
            due("TAKES", x.told(one, 8), roads[one]);
            due("PUTS BY", x.told(one, 9), puts[one]);
        }
        due("at 11", x.told(11, 10), 7);
        due("at 0", x.told(0, 10), 24);
        due("at 5", x.told(5, 10), 0);
        for (int one = 0; one < 5; one++) {
            x.set(4, one, 5);
        }
        due("all at 5", x.told(5, 10), 31);

        says(4, "-1000: none such.");
        for (int what = 0; what < 10; what++) {
            int past = what < 2 ? 24 : 5;
            for (int of : new int[] {-1, past, LEAST, GREATEST}) {
                due("told(" + of + ", " + what + ")", x.told(of, what), what == 2 ? 0 : -1000);
            }
            due("the last", x.told(past - 1, what) == -1000 ? 1 : 0, 0);
        }
        for (int of : new int[] {-1, 12, LEAST, GREATEST}) {
            due("told(" + of + ", 10)", x.told(of, 10), -1000);
        }
        for (int what : new int[] {-1, 11, LEAST, GREATEST}) {
            due("told(0, " + what + ")", x.told(0, what), -1000);
        }
    }

    private static void lifeAndTastes() {
        says(3, "One of LIVES: the number. BAD; FULL.");
        RoadsNotGoneBy x = new RoadsNotGoneBy();
        int[][] bad = {{-1, 0, 0}, {6, 0, 0}, {0, -1, 0}, {0, 10, 0}, {0, 0, -1}, {0, 0, 12}, {LEAST, 0, 0}, {GREATEST, 0, 0}, {0, LEAST, 0}, {0, GREATEST, 0},
            {0, 0, LEAST}, {0, 0, GREATEST}};
        for (int[] b : bad) {
            due("life(" + b[0] + ", " + b[1] + ", " + b[2] + ")", x.life(b[0], b[1], b[2]), BAD);
        }
        int[][] come = {{0, 0, 0}, {5, 9, 11}, {0, 9, 0}, {5, 0, 0}, {0, 0, 11}};
        for (int i = 0; i < 5; i++) {
            due("life", x.life(come[i][0], come[i][1], come[i][2]), i);
            due("KIND", x.told(i, 7), come[i][0]);
            due("NUMBER", x.told(i, 3), come[i][1]);
            due("AT", x.told(i, 4), come[i][2]);
        }
        due("a sixth", x.life(0, 0, 0), FULL);
        due("a sixth, none such", x.life(0, 0, 12), BAD);
        due("count", x.count(0), 5);

        says(5, "What one would FEEL by a SPOON of a JAR (it has any or not). -1000: none such.");
        x = ruledBy("0", "0", "jar");
        x.life(0, 0, 0);
        x.set(1, 23, 98);
        due("an empty one", x.tastes(0, 0), 0);
        due("the last one", x.tastes(0, 23), 98);
        due("it has as much as it had", x.told(23, 1), 98);
        due("nothing EATEN", x.told(0, 6), 0);
        int[][] none = {{-1, 0}, {1, 0}, {0, -1}, {0, 24}, {LEAST, 0}, {GREATEST, 0}, {0, LEAST}, {0, GREATEST}};
        for (int[] n : none) {
            due("tastes(" + n[0] + ", " + n[1] + ")", x.tastes(n[0], n[1]), -1000);
        }
    }

    // ---- promises 6 to 8

    private static void texts() {
        says(6, "A byte (0 .. 255) comes behind THE TAPE: how many it has. BAD; FULL.");
        RoadsNotGoneBy x = new RoadsNotGoneBy();
        for (int b : new int[] {-1, 256, LEAST, GREATEST, 't' + 256, 't' - 256}) {
            due("feed(" + b + ")", x.feed(b), BAD);
        }
        due("none came", x.count(4), 0);
        due("feed(0)", x.feed(0), 1);
        due("feed(255)", x.feed(255), 2);
        for (int i = 3; i <= 160; i++) {
            due("feed", x.feed(32), i);
        }
        due("the 161st", x.feed(32), FULL);
        due("the 161st, none such", x.feed(-1), BAD);
        due("count", x.count(4), 160);

        says(7, "THE TAPE, which is empty then (by a FAULT, too), is a TEXT: its number; -100 less the place of its FAULT.");
        due("a FAULT at once", x.text(), -100);
        due("empty by a FAULT, too", x.count(4), 0);
        due("nothing on it", x.text(), -100);
        due("no TEXT more", x.count(3), 1);
        feedAll(x, "takes 1" + END);
        due("a TEXT", x.text(), 1);
        due("empty then", x.count(4), 0);
        due("not THE RULE", x.count(5), 0);
        due("behind a blank", feedAll(x, " "), 1);
        due("nothing of the one before", x.text(), -101);

        says(7, "FULL (ahead of all): no TEXT more has room (THE TAPE stays).");
        for (int i = 2; i < 6; i++) {
            feedAll(x, "takes 1" + END);
            due("text", x.text(), i);
        }
        due("nothing on THE TAPE", x.text(), FULL);
        due("feeds", feedAll(x, "takes 1" + END), 7 + END.length());
        due("a good one", x.text(), FULL);
        due("feeds on", x.feed('@'), 8 + END.length());
        due("a FAULT", x.text(), FULL);
        due("THE TAPE stays", x.count(4), 8 + END.length());
        due("six", x.count(3), 6);

        says(8, "A TEXT is THE RULE: which was. BAD.");
        for (int t : new int[] {-1, 6, LEAST, GREATEST}) {
            due("force(" + t + ")", x.force(t), BAD);
        }
        due("force(5)", x.force(5), 0);
        due("force(5)", x.force(5), 5);
        due("force(6)", x.force(6), BAD);
        due("THE RULE", x.count(5), 5);
        due("force(0)", x.force(0), 5);
        x = new RoadsNotGoneBy();
        due("force(1)", x.force(1), BAD);
        feedAll(x, "takes 1" + END + "@");
        x.text();
        due("a TEXT with a FAULT is none", x.force(1), BAD);
    }

    // ---- promises 9 to 12

    private static void years() {
        says(9, "A YEAR, truly: what all JARS have then, together. STATE: YEAR is 999.");
        RoadsNotGoneBy x = new RoadsNotGoneBy();
        due("without LIVES", x.year(), 0);
        due("YEAR", x.count(2), 1);
        x.life(0, 0, 0);
        for (int jar = 0; jar < 24; jar++) {
            x.set(1, jar, 999);
        }
        due("all are full", x.year(), 24 * 999);
        due("AT", x.told(0, 4), 2);
        x.set(2, 0, 998);
        due("YEAR 998", x.year(), 24 * 999);
        due("YEAR 999", x.year(), STATE);
        due("YEAR stays", x.count(2), 999);
        due("AT stays: 2 and 998 are 99 for TAKES", x.told(0, 4), 4);
        x.set(2, 0, 0);
        due("on again", x.year(), 24 * 999);

        says(10, "A SPOON, truly: MOOD then. -1000: none such; -1003: the JAR is empty.");
        x = new RoadsNotGoneBy();
        x.life(5, 0, 0);
        x.set(5, 0, 77);
        x.set(1, 0, 1);
        int[][] none = {{-1, 0}, {1, 0}, {0, -1}, {0, 24}, {LEAST, LEAST}, {GREATEST, GREATEST}, {1, 23}};
        for (int[] n : none) {
            due("spoon(" + n[0] + ", " + n[1] + ")", x.spoon(n[0], n[1]), -1000);
        }
        due("an empty one", x.spoon(0, 23), -1003);
        due("nothing EATEN", x.told(0, 6), 0);
        due("a WOMAN feels nothing", x.spoon(0, 0), 77);
        due("one EATEN", x.told(0, 6), 1);
        due("empty now", x.spoon(0, 0), -1003);

        says(11, "n YEARS: where one is AT (what 0), CROSSINGS (1; bits), what all JARS have (2), JAR what less 10 has (10 .. 33). BAD.");
        x = new RoadsNotGoneBy();
        x.life(0, 0, 0);
        x.set(1, 0, 5);
        x.set(1, 23, 9);
        due("JAR 0", x.run(0, 0, 10), 5);
        due("JAR 1", x.run(0, 1, 11), 2);
        due("JAR 23", x.run(0, 0, 33), 9);
        due("all", x.run(0, 1, 2), 16);
        due("what -1", x.run(0, 0, -1), BAD);
        due("what 3", x.run(0, 0, 3), BAD);
        due("what 9", x.run(0, 0, 9), BAD);
        due("what 34", x.run(0, 0, 34), BAD);
        due("what 2147483647", x.run(0, 0, GREATEST), BAD);
        due("what -2147483648", x.run(0, 0, LEAST), BAD);
        due("one -1", x.run(-1, 0, 0), BAD);
        due("one 1", x.run(1, 0, 2), BAD);
        due("n 61", x.run(0, 61, 33), BAD);
        due("n -1", x.run(0, -1, 33), BAD);
        due("n 2147483647", x.run(0, GREATEST, 0), BAD);
        due("nothing goes truly", x.told(0, 4) + x.count(2) + x.told(1, 1), 0);

        says(12, "OTHERWISE. BAD.");
        due("one -1", x.otherwise(-1, 1, 0), BAD);
        due("one 1", x.otherwise(1, 1, 0), BAD);
        due("n 0", x.otherwise(0, 0, 0), BAD);
        due("n 41", x.otherwise(0, 41, 0), BAD);
        due("k n", x.otherwise(0, 40, 40), BAD);
        due("k -1", x.otherwise(0, 40, -1), BAD);
        due("n -2147483648", x.otherwise(0, LEAST, LEAST), BAD);
        due("n 2147483647", x.otherwise(0, GREATEST, 0), BAD);
        due("n 40, k 39: 0 1 3 5 .. 77, 78", x.otherwise(0, 40, 39), oddWalk(40, 39));
        due("n 40, k 0", x.otherwise(0, 40, 0), oddWalk(40, 0));
        due("nothing goes truly", x.told(0, 4) + x.count(2) + x.told(0, 1), 5);
    }

    // By TEXT 0: ROAD 1, where CROSSING and YEAR are odd together.
    private static int oddWalk(int n, int turned) {
        int at = 0;
        for (int year = 0; year < n; year++) {
            int road = Math.min(99, at + year) % 2;
            at = (at + 1 + (year == turned ? 1 - road : road)) % 12;
        }
        return at;
    }

    // ---- promises 13 to 18

    private static void counted() {
        says(13, "TURNS: in how many ways. NO: no such CROSSINGS, n.");
        RoadsNotGoneBy x = new RoadsNotGoneBy();
        int[][] bad = {{-1, 0, 0}, {12, 0, 0}, {0, -1, 0}, {0, 12, 0}, {0, 0, -1}, {0, 0, 31}, {LEAST, 0, 0}, {0, GREATEST, 0}, {0, 0, LEAST}, {0, 0, GREATEST}};
        for (int[] b : bad) {
            due("turns", x.turns(b[0], b[1], b[2]), NO);
        }
        long all = 0;
        for (int to = 0; to < 12; to++) {
            all += x.turns(11, to, 30);
        }
        due("all of 30 ROADS", all, 1L << 30);

        says(14, "LIKELY: part 0 above, 1 below the line, in lowest terms. NO: as of turns(), part.");
        for (int[] b : bad) {
            due("likely", x.likely(b[0], b[1], b[2], 0), NO);
            due("likely", x.likely(b[0], b[1], b[2], 1), NO);
        }
        for (int part : new int[] {-1, 2, LEAST, GREATEST}) {
            due("part " + part, x.likely(0, 0, 0, part), NO);
        }
        due("6 of 16: 3", x.likely(0, 6, 4, 0), 3);
        due("of 8", x.likely(0, 6, 4, 1), 8);
        due("0 of 16: 0", x.likely(0, 11, 4, 0), 0);
        due("of 1", x.likely(0, 11, 4, 1), 1);

        says(15, "FEWEST. BAD; NONE.");
        x.life(5, 0, 0);
        int[][] badF = {{-1, 0, 0}, {1, 0, 0}, {0, -1, 0}, {0, 12, 0}, {0, 0, -1}, {0, 0, 31}, {LEAST, 0, 0}, {0, GREATEST, 0}, {0, 0, GREATEST}};
        for (int[] b : badF) {
            due("fewest", x.fewest(b[0], b[1], b[2]), BAD);
        }
        due("none", x.fewest(0, 11, 5), NONE);
        due("11 by 10", x.fewest(0, 11, 10), 1);
        due("nothing goes truly", x.told(0, 4) + x.count(2), 0);

        says(16, "MEET. BAD: no such two, one and the same; NONE.");
        x.life(5, 0, 1);
        int[][] badM = {{0, 0}, {1, 1}, {-1, 0}, {0, -1}, {2, 0}, {0, 2}, {2, 2}, {-1, -1}, {LEAST, 0}, {0, GREATEST}};
        for (int[] b : badM) {
            due("meet(" + b[0] + ", " + b[1] + ")", x.meet(b[0], b[1]), BAD);
        }
        due("none", x.meet(0, 1), NONE);

        says(17, "SHUT (what 0; NONE), what all JARS have then (1; as so). BAD: n, what.");
        x = new RoadsNotGoneBy();
        int[][] badS = {{-1, 0}, {41, 0}, {0, -1}, {0, 2}, {LEAST, 0}, {GREATEST, 1}, {0, LEAST}, {0, GREATEST}};
        for (int[] b : badS) {
            due("shut(" + b[0] + ", " + b[1] + ")", x.shut(b[0], b[1]), BAD);
        }
        x.set(1, 4, 7);
        due("no LIVES", x.shut(40, 0), NONE);
        due("as so", x.shut(40, 1), 7);
        x.life(0, 0, 0);
        due("by like ones", x.shut(40, 0), NONE);
        due("as so", x.shut(40, 1), 87);
        due("nothing goes truly", x.told(0, 0) + x.told(0, 4) + x.count(2), 1);

        says(18, "SPOON FOR (what 0; NONE), how one FEELS (1; 0, if NONE), SHELF (2; NONE). -1000: none such, what.");
        x = new RoadsNotGoneBy();
        for (int what = 0; what < 3; what++) {
            due("no LIVES", x.best(0, what), -1000);
        }
        x.life(0, 0, 0);
        due("NONE", x.best(0, 0), NONE);
        due("0, if NONE", x.best(0, 1), 0);
        due("NONE", x.best(0, 2), NONE);
        int[][] badB = {{-1, 0}, {1, 0}, {1, 1}, {1, 2}, {0, -1}, {0, 3}, {LEAST, 2}, {0, GREATEST}};
        for (int[] b : badB) {
            due("best(" + b[0] + ", " + b[1] + ")", x.best(b[0], b[1]), -1000);
        }
    }

    // ---- promises 19 to 25

    private static void livesToldBack() {
        says(19, "TOLD of one: the first that is otherwise (what 0; NONE), KINDS (1), NUMBERS (2), CROSSINGS (3), MOODS: how many (4), the least (5; "
            + "-100: none), TEXTS (6), LIVES (7).");
        RoadsNotGoneBy x = new RoadsNotGoneBy();
        x.life(5, 0, 0);
        x.life(5, 1, 0);
        cells(x, 0, 1, 1);
        int[] one = {NONE, 1 << 0 | 1 << 1 | 1 << 2 | 1 << 3 | 1 << 4 | 1 << 5, 1 | 4 | 16 | 64 | 256, 1, 199, -99, 1, 1};
        // An ENGINEER or GIRL of NUMBER 0 at 0 takes ROAD 1.
        one[1] -= 1 << 1 | 1 << 3;
        int[] two = {0, 1 << 0 | 1 << 1 | 1 << 2 | 1 << 3 | 1 << 4, 1 | 4 | 16 | 64 | 256, 0, 0, -100, 0, 1};
        for (int what = 0; what < 8; what++) {
            due("tells(0, 0, " + what + ")", x.tells(0, 0, what), one[what]);
            due("tells(0, 1, " + what + ")", x.tells(0, 1, what), what == 3 ? 1 << 11 : two[what]);
        }
        due("nothing goes truly", x.told(0, 4) + x.told(1, 4) + x.count(2) + x.count(5), 0);

        says(19, "-1002: SHEET, none such, what; -1011: the SHEET is missing; -1003: it tells more than 30.");
        int[][] bad = {{-1, 0, 0}, {4, 0, 0}, {0, -1, 0}, {0, 2, 0}, {0, 2, 7}, {0, 0, -1}, {0, 0, 8}, {LEAST, 0, 0}, {GREATEST, 0, 0}, {0, LEAST, 0},
            {0, GREATEST, 0}, {0, 0, LEAST}, {0, 0, GREATEST}, {1, 2, 0}, {1, 0, 8}};
        for (int[] b : bad) {
            due("tells(" + b[0] + ", " + b[1] + ", " + b[2] + ")", x.tells(b[0], b[1], b[2]), -1002);
        }
        // A LIFE, and who finds JARS of which the first has less, take ROAD 0 all 30 YEARS too.
        int[] filmed = {NONE, 1 << 0 | 1 << 2 | 1 << 4 | 1 << 5, 1 | 4 | 16 | 64 | 256, 1, 199, -99, 1, 1};
        for (int what = 0; what < 8; what++) {
            x.sheet(1, -1, 0);
            due("missing", x.tells(1, 0, what), -1011);
            x.sheet(1, 2, 31);
            due("31", x.tells(1, 0, what), -1003);
            x.sheet(1, 2, 40);
            due("40", x.tells(1, 0, what), -1003);
            x.film(1, 0, 30);
            due("30", x.tells(1, 0, what), filmed[what]);
        }

        says(20, "A SHEET truly becomes where one is AT behind 1, .., n YEARS (n 0 .. 30; bytes): n. BAD.");
        int[][] badF = {{-1, 0, 0}, {4, 0, 0}, {0, -1, 0}, {0, 2, 0}, {0, 0, -1}, {0, 0, 31}, {LEAST, 0, 0}, {0, GREATEST, 0}, {0, 0, LEAST}, {0, 0, GREATEST}};
        x = new RoadsNotGoneBy();
        x.life(5, 0, 9);
        x.life(5, 0, 9);
        for (int[] b : badF) {
            due("film(" + b[0] + ", " + b[1] + ", " + b[2] + ")", x.film(b[0], b[1], b[2]), BAD);
        }
        due("still missing", x.cell(0, 0, 0), -11);
        due("0", x.film(0, 0, 0), 0);
        due("a row of none", x.cell(0, 0, 0), -12);
        due("30", x.film(0, 0, 30), 30);
        for (int i = 0; i < 30; i++) {
            due("behind " + (i + 1), itemOf(x, 0, 0, 0, i), (10 + i) % 12);
        }
        due("a row of 30", x.cell(0, 30, 0), -12);
        x.sheet(1, 0, 1);
        due("of bytes", x.copy(0, 29, 1, 0, 1), 1);
        x.sheet(1, 2, 40);
        due("a longer one of ints becomes shorter", x.film(1, 1, 2), 2);
        due("2", x.cell(1, 2, 0), -12);
        x.set(2, 0, 999);
        due("past 999", x.film(1, 1, 30), 30);
        due("AT", x.told(0, 4), 9);
        drawnAndCounted();
    }

    private static void drawnAndCounted() {
        says(21, "DRAWN. BAD: none such, n.");
        RoadsNotGoneBy x = new RoadsNotGoneBy();
        due("no LIVES", x.drawn(0, 0, 0), BAD);
        x.life(0, 0, 4);
        for (int n : new int[] {-1, 41, LEAST, GREATEST}) {
            due("n " + n, x.drawn(0, 0, n), BAD);
        }
        for (int one : new int[] {-1, 1, LEAST, GREATEST}) {
            due("one " + one, x.drawn(0, one, 1), BAD);
        }
        due("0", x.drawn(GREATEST, 0, 0), 4);
        due("40", x.drawn(GREATEST, 0, 40), walked(GREATEST, 4, 40));
        due("40", x.drawn(LEAST, 0, 40), walked(LEAST, 4, 40));

        says(22, "IN m seeds: part 0 above, 1 below the line, in lowest terms. NO: m, none such, no CROSSING, part.");
        int[][] bad = {{0, 0, 0, 0}, {41, 0, 0, 0}, {-1, 0, 0, 0}, {LEAST, 0, 0, 0}, {GREATEST, 0, 0, 0}, {1, -1, 0, 0}, {1, 1, 0, 0}, {1, 0, -1, 0},
            {1, 0, 12, 0}, {1, 0, GREATEST, 1}, {1, 0, 0, -1}, {1, 0, 0, 2}, {1, 0, 0, LEAST}};
        for (int[] b : bad) {
            due("chance(0, " + b[0] + ", " + b[1] + ", " + b[2] + ", " + b[3] + ")", x.chance(0, b[0], b[1], b[2], b[3]), NO);
        }
        due("8 YEARS lead 8 to 16 on, not 7", x.chance(1, 40, 0, 11, 0), 0);
        due("0 of 40 is 0 of 1", x.chance(1, 40, 0, 11, 1), 1);
        for (int c = 0; c < 24; c++) {
            x.set(0, c, 6);
        }
        due("40 of 40 is 1", x.chance(1, 40, 0, 6, 0), 1);
        due("of 1", x.chance(1, 40, 0, 6, 1), 1);

        says(25, "How many: 0 LIVES, 1 what all JARS have, 2 YEAR, 3 TEXTS, 4 bytes of THE TAPE, 5 THE RULE. BAD.");
        x = new RoadsNotGoneBy();
        int[] atFirst = {0, 0, 0, 1, 0, 0};
        for (int what = 0; what < 6; what++) {
            due("count(" + what + ")", x.count(what), atFirst[what]);
        }
        for (int what : new int[] {-1, 6, LEAST, GREATEST}) {
            due("count(" + what + ")", x.count(what), BAD);
        }
        for (int jar = 0; jar < 24; jar++) {
            x.set(1, jar, 999);
        }
        due("all JARS full", x.count(1), 23976);
    }

    private static void images() {
        says(0, "AN IMAGE keeps ROADS, JARS, YEAR, NUMBERS, where all are AT, MOODS, EATEN, THE RULE (LIVES that came since go).");
        RoadsNotGoneBy x = ruledBy("1", "1", "1");
        x.life(1, 2, 3);
        x.life(2, 3, 4);
        int[][] sets = {{0, 0, 11, 0}, {0, 23, 10, 0}, {1, 0, 999, 0}, {1, 23, 1, 5}, {2, 0, 999, 3}, {3, 1, 9, 0}, {4, 1, 11, 0}, {5, 1, -99, 99}, {6, 1, 999, 0}};
        for (int[] s : sets) {
            x.set(s[0], s[1], s[2]);
        }
        due("image", x.image(), 2);
        for (int[] s : sets) {
            x.set(s[0], s[1], s[3]);
        }
        x.force(0);
        for (int i = 2; i < 5; i++) {
            x.life(i, i, i);
        }
        feedAll(x, "takes 1" + END + " ");
        x.sheet(0, 1, 3);
        due("back", x.back(), 2);
        for (int[] s : sets) {
            due("told(" + s[1] + ", " + s[0] + ")", x.told(s[1], s[0]), s[2]);
        }
        due("THE RULE", x.count(5), 1);
        due("LIVES that came go", x.told(2, 7), -1000);
        due("none of them at 2", x.told(2, 10), 0);
        due("there is room again", x.life(0, 0, 0), 2);
        x.set(5, 2, 50);
        x.set(6, 2, 50);
        x.back();
        due("there is room again", x.life(0, 0, 0), 2);
        due("MOOD 0 as one comes", x.told(2, 5), 0);
        due("EATEN 0 as one comes", x.told(2, 6), 0);
        due("THE TAPE is as it was", x.count(4), 8 + END.length());
        due("a SHEET is as it was", x.cell(0, 2, 1), 1);

        says(23, "AN IMAGE is kept: how many LIVES.");
        x = new RoadsNotGoneBy();
        due("of none", x.image(), 0);
        x.life(0, 0, 0);
        due("back to none", x.back(), 0);
        due("LIVES", x.count(0), 0);
        for (int i = 0; i < 5; i++) {
            x.life(0, 0, 0);
        }
        due("of five", x.image(), 5);
        x.set(4, 4, 7);
        due("back to five", x.back(), 5);
        due("the fifth", x.told(4, 4), 0);
        x.set(4, 4, 8);
        due("a later one in its place", x.image(), 5);
        x.set(4, 4, 9);
        x.back();
        due("the later one", x.told(4, 4), 8);

        says(24, "All that it keeps is as in THE IMAGE: how many LIVES. STATE: there is none.");
        x = new RoadsNotGoneBy();
        due("none", x.back(), STATE);
        x.life(0, 0, 0);
        due("none", x.back(), STATE);
        due("LIVES stay", x.count(0), 1);
        x.image();
        for (int i = 0; i < 3; i++) {
            x.year();
            due("back again and again", x.back(), 1);
            due("AT", x.told(0, 4), 0);
            due("JARS", x.count(1), 0);
            due("YEAR", x.count(2), 0);
        }
    }

    // ---- promises 26 to 30

    private static void sheetsAndCells() {
        says(26, "A SHEET becomes a row of n of a sort, all 0, or missing (sort -1: n does not matter): 1. BAD: no such SHEET, sort; n above 40; -14.");
        RoadsNotGoneBy x = new RoadsNotGoneBy();
        x.life(5, 0, 11);
        int[][] asked = {{-1, 0, 1, BAD}, {4, 0, 1, BAD}, {0, -2, 1, BAD}, {0, 3, 1, BAD}, {0, 0, 41, BAD}, {0, 0, -1, -14}, {0, 2, LEAST, -14},
            {0, 2, GREATEST, BAD}, {LEAST, 0, 0, BAD}, {GREATEST, 0, 0, BAD}, {0, LEAST, 0, BAD}, {0, GREATEST, 0, BAD}, {0, 3, -1, BAD}, {4, -1, 0, BAD},
            {0, -1, 41, 1}, {0, -1, -1, 1}, {0, -1, LEAST, 1}, {0, -1, GREATEST, 1}};
        for (int[] a : asked) {
            due("sheet(" + a[0] + ", " + a[1] + ", " + a[2] + ")", x.sheet(a[0], a[1], a[2]), a[3]);
            due("missing still", x.cell(0, 0, 0), -11);
        }
        for (int sort = 0; sort < 3; sort++) {
            due("40", x.sheet(3, sort, 40), 1);
            due("cell 39", x.cell(3, 39, 1), 1);
            due("cell 40", x.cell(3, 40, 1), -12);
            due("none", x.sheet(3, sort, 0), 1);
            due("cell 0", x.cell(3, 0, 1), -12);
        }
        cells(x, 0, 2, 7, 7);
        due("refused", x.sheet(0, 2, 41), BAD);
        due("it stays", itemOf(x, 0, 0, 2, 1), 7);
        x.sheet(0, 2, 2);
        due("all 0", itemOf(x, 0, 0, 2, 0), 0);
        due("all 0", itemOf(x, 0, 0, 2, 1), 0);
        due("missing again", x.sheet(0, -1, 2), 1);
        due("missing", x.tells(0, 0, 0), -1011);

        says(27, "Item i of a SHEET becomes v (of bytes, shorts its lowest 8, 16 bits): 1. BAD: no such SHEET; -11; -12.");
        due("missing", x.cell(0, 0, 0), -11);
        due("missing", x.cell(0, -1, 0), -11);
        for (int sheet : new int[] {-1, 4, LEAST, GREATEST}) {
            due("SHEET " + sheet, x.cell(sheet, 0, 0), BAD);
        }
        x.sheet(0, 0, 1);
        for (int i : new int[] {-1, 1, 40, LEAST, GREATEST}) {
            due("item " + i, x.cell(0, i, 5), -12);
        }
        due("it stays 0", itemOf(x, 0, 0, 0, 0), 0);
        int[][] laid = {{0, 5, 5}, {0, 261, 5}, {0, -251, 5}, {0, 65541, 5}, {0, LEAST + 5, 5}, {0, 128, NONE}, {0, 255, NONE}, {1, 5, 5}, {1, 261, NONE},
            {1, 65541, 5}, {1, -65531, 5}, {1, LEAST + 5, 5}, {1, 32768, NONE}, {2, 5, 5}, {2, 65541, NONE}, {2, LEAST + 5, NONE}, {2, LEAST, NONE},
            {2, GREATEST, NONE}, {2, -1, NONE}};
        for (int[] l : laid) {
            cells(x, 0, l[0], l[1]);
            due("sort " + l[0] + ", " + l[1], itemOf(x, 0, 0, l[0], 0), l[2]);
        }
    }

    private static void copies() {
        says(28, "n numbers of a SHEET, from item i on, come to another one's item j on (as they were): n.");
        RoadsNotGoneBy x = new RoadsNotGoneBy();
        x.life(5, 0, 0);
        for (int sort = 0; sort < 3; sort++) {
            cells(x, 0, sort, 1, 2, 3, 4, 5);
            cells(x, 1, sort, 6, 7, 8);
            due("all of one", x.copy(1, 0, 0, 2, 3), 3);
            items(x, 0, sort, 1, 2, 6, 7, 8);
            due("the last to the first", x.copy(0, 4, 1, 0, 1), 1);
            items(x, 1, sort, 8, 7, 8);
            due("on, over itself", x.copy(0, 0, 0, 1, 4), 4);
            items(x, 0, sort, 1, 1, 2, 6, 7);
            due("back, over itself", x.copy(0, 1, 0, 0, 4), 4);
            items(x, 0, sort, 1, 2, 6, 7, 7);
            due("onto itself", x.copy(0, 0, 0, 0, 5), 5);
            items(x, 0, sort, 1, 2, 6, 7, 7);
            due("none", x.copy(0, 0, 1, 0, 0), 0);
            due("none, behind the last", x.copy(0, 5, 1, 3, 0), 0);
        }
        x.sheet(0, 0, 40);
        x.sheet(1, 0, 40);
        x.cell(0, 39, 9);
        due("40", x.copy(0, 0, 1, 0, 40), 40);
        due("the last", itemOf(x, 0, 1, 0, 39), 9);

        says(28, "BAD: no such SHEET; -11; -13: they are of unlike sorts; -12 (also with n below 0).");
        x = new RoadsNotGoneBy();
        x.life(5, 0, 0);
        cells(x, 0, 1, 1, 2, 3);
        cells(x, 1, 1, 4, 5, 6);
        x.sheet(2, 0, 3);
        int[][] bad = {{-1, 0, 0, 0, 1, BAD}, {4, 0, 0, 0, 1, BAD}, {0, 0, -1, 0, 1, BAD}, {0, 0, 4, 0, 1, BAD}, {3, 0, 4, 0, 1, BAD}, {LEAST, 0, 3, 0, 1, BAD},
            {3, 0, 0, 0, 1, -11}, {0, 0, 3, 0, 1, -11}, {3, 0, 3, 0, 1, -11}, {3, 9, 2, 9, -1, -11}, {0, 0, 2, 0, 1, -13}, {2, 0, 0, 0, 1, -13}, {2, 9, 0, 9, -1, -13},
            {0, 0, 1, 0, -1, -12}, {0, 0, 1, 0, LEAST, -12}, {0, 0, 1, 0, 4, -12}, {0, 0, 1, 0, GREATEST, -12}, {0, -1, 1, 0, 1, -12}, {0, 0, 1, -1, 1, -12},
            {0, 3, 1, 0, 1, -12}, {0, 0, 1, 3, 1, -12}, {0, 1, 1, 0, 3, -12}, {0, 0, 1, 1, 3, -12}, {0, GREATEST, 1, 0, 1, -12}, {0, 1, 1, 0, GREATEST, -12},
            {0, 0, 1, GREATEST, GREATEST, -12}, {0, LEAST, 1, LEAST, LEAST, -12}, {0, -1, 1, 0, 0, -12}, {0, 0, 1, 4, 0, -12}, {0, 4, 1, 0, 0, -12},
            {0, 2, 0, 1, 2, -12}, {0, 4, 0, 4, -1, -12}};
        for (int[] b : bad) {
            due("copy(" + b[0] + ", " + b[1] + ", " + b[2] + ", " + b[3] + ", " + b[4] + ")", x.copy(b[0], b[1], b[2], b[3], b[4]), b[5]);
        }
        items(x, 0, 1, 1, 2, 3);
        items(x, 1, 1, 4, 5, 6);
    }

    private static void items(RoadsNotGoneBy x, int sheet, int sort, int... want) {
        for (int i = 0; i < want.length; i++) {
            due("item " + i + " of SHEET " + sheet, itemOf(x, 0, sheet, sort, i), want[i]);
        }
    }

    private static void livesBySheet() {
        says(29, "LIVES by a SHEET that is taken for one of a sort: from one on, three by three (as of life()), n of them (0 .. 5): how many came (others "
            + "are left out).");
        int[] row = {5, 9, 11, 0, 0, 0, 6, 0, 0, -1, 0, 0, 0, 10, 0, 0, -1, 0, 0, 0, 12, 0, 0, -1, 1, 2, 3};
        for (int sort = 0; sort < 3; sort++) {
            RoadsNotGoneBy x = new RoadsNotGoneBy();
            cells(x, 0, sort, row);
            due("none", x.lives(0, sort, 0, 0), 0);
            due("two of two", x.lives(0, sort, 0, 2), 2);
            due("none of five", x.lives(0, sort, 6, 5), 0);
            due("one of two", x.lives(0, sort, 21, 2), 1);
            due("KIND", x.told(2, 7), 1);
            due("NUMBER", x.told(2, 3), 2);
            due("AT", x.told(2, 4), 3);
            due("from one that is not by three", x.lives(0, sort, 3 + 1, 1), 1);
            due("its KIND, NUMBER, AT", x.told(3, 7) * 100 + x.told(3, 3) * 10 + x.told(3, 4), 6);
            due("one has room", x.lives(0, sort, 0, 2), 1);
            due("full", x.count(0), 5);
            due("no room", x.lives(0, sort, 0, 5), 0);
            due("all as they were", x.told(4, 7), 5);
        }
        RoadsNotGoneBy x = new RoadsNotGoneBy();
        cells(x, 0, 2, 0, 0, 0, 1, 1, 1, 2, 2, 2, 3, 3, 3, 4, 4, 4);
        due("five", x.lives(0, 2, 0, 5), 5);

        says(29, "BAD: no such SHEET, sort, n; -13; -11; -12: what stood ahead came.");
        x = new RoadsNotGoneBy();
        cells(x, 0, 1, 0, 1, 2, 1, 2, 3, 2, 3);
        int[][] bad = {{-1, 1, 0, 1, BAD}, {4, 1, 0, 1, BAD}, {0, -1, 0, 1, BAD}, {0, 3, 0, 1, BAD}, {0, 1, 0, -1, BAD}, {0, 1, 0, 6, BAD}, {LEAST, 1, 0, 1, BAD},
            {0, GREATEST, 0, 1, BAD}, {0, 1, 0, LEAST, BAD}, {0, 1, 0, GREATEST, BAD}, {1, 1, 0, 6, BAD}, {1, -1, 0, 1, BAD}, {0, 0, 0, 1, -13}, {0, 2, 0, 1, -13},
            {0, 0, 99, 1, -13}, {1, 0, 0, 1, -11}, {1, 2, 99, 1, -11}, {0, 1, -1, 1, -12}, {0, 1, -3, 2, -12}, {0, 1, 8, 1, -12}, {0, 1, 6, 1, -12}, {0, 1, 7, 1, -12},
            {0, 1, LEAST, 5, -12}, {0, 1, GREATEST, 5, -12}, {0, 1, GREATEST - 1, 5, -12}};
        for (int[] b : bad) {
            due("lives(" + b[0] + ", " + b[1] + ", " + b[2] + ", " + b[3] + ")", x.lives(b[0], b[1], b[2], b[3]), b[4]);
            due("none came", x.count(0), 0);
        }
        due("two of three stood ahead", x.lives(0, 1, 0, 3), -12);
        due("they came", x.count(0), 2);
        due("the first", x.told(0, 4), 2);
        due("the second", x.told(1, 4), 3);
        due("one of five stood ahead", x.lives(0, 1, 3, 5), -12);
        due("it came", x.count(0), 3);
    }

    private static void takenFor() {
        says(30, "One of LIVES taken for one of KIND k (0 .. 5), or one under that one (also by others between): the NUMBER.");
        int[][] kinds = {{1, 0, 0, 0, 0, 0}, {1, 1, 0, 0, 0, 0}, {1, 0, 1, 0, 0, 0}, {1, 1, 0, 1, 0, 0}, {1, 0, 1, 0, 1, 0}, {1, 0, 0, 0, 0, 1}};
        for (int kind = 0; kind < 6; kind++) {
            RoadsNotGoneBy x = new RoadsNotGoneBy();
            x.life(kind, 9, 0);
            for (int k = 0; k < 6; k++) {
                due("KIND " + kind + " for " + k, x.taken(0, k), kinds[kind][k] == 1 ? 9 : -13);
            }
            x.set(3, 0, 0);
            due("NUMBER 0", x.taken(0, 0), 0);
        }

        says(30, "BAD: k; -11: none such; -13.");
        RoadsNotGoneBy x = new RoadsNotGoneBy();
        due("no LIVES", x.taken(0, 0), -11);
        x.life(0, 5, 0);
        for (int k : new int[] {-1, 6, LEAST, GREATEST}) {
            due("KIND " + k, x.taken(0, k), BAD);
            due("KIND " + k + " of none such", x.taken(1, k), BAD);
        }
        for (int one : new int[] {-1, 1, 5, LEAST, GREATEST}) {
            due("one " + one, x.taken(one, 0), -11);
        }
        due("a LIFE is no WOMAN", x.taken(0, 5), -13);
    }
}
