/** For each promise: ordinary inputs, the edges that the document names, and wrong inputs, reckoned by hand. */
public final class PromisesTest {
    private static final String PLAIN = "takes crossing + year ; puts 2 ; feels 5 ;";
    private static final int LEAST = Integer.MIN_VALUE, GREATEST = Integer.MAX_VALUE;
    private static int wrong = 0;
    private static String promise = "";

    public static void main(String[] args) {
        newObject();
        setAndTold();
        life();
        tellsByKind();
        tastes();
        feedAndText();
        grammar();
        faults();
        openOnes();
        reckoning();
        force();
        year();
        spoon();
        run();
        otherwise();
        turnsAndLikely();
        fewest();
        meet();
        shut();
        best();
        tells();
        film();
        drawnAndChance();
        imageAndBack();
        count();
        sheetAndCell();
        copy();
        lives();
        taken();
        System.out.println(wrong == 0 ? "all promises hold" : wrong + " answers are not as due");
        if (wrong != 0) {
            System.exit(1);
        }
    }

    private static void due(String call, long got, long want) {
        if (got != want) {
            wrong++;
            System.out.println("promise " + promise + ": " + call + " answered " + got + ", due is " + want);
        }
    }

    private static int feedAll(RoadsNotGoneBy x, String letters) {
        int last = 0;
        for (int i = 0; i < letters.length(); i++) {
            last = x.feed(letters.charAt(i));
        }
        return last;
    }

    private static int read(String letters) {
        RoadsNotGoneBy x = new RoadsNotGoneBy();
        feedAll(x, letters);
        return x.text();
    }

    private static RoadsNotGoneBy ruledBy(String letters) {
        RoadsNotGoneBy x = new RoadsNotGoneBy();
        feedAll(x, letters);
        x.force(x.text());
        return x;
    }

    private static void cells(RoadsNotGoneBy x, int sheet, int sort, int... items) {
        x.sheet(sheet, sort, items.length);
        for (int i = 0; i < items.length; i++) {
            x.cell(sheet, i, items[i]);
        }
    }

    private static void newObject() {
        promise = "1";
        RoadsNotGoneBy x = new RoadsNotGoneBy();
        for (int jar = 0; jar < 24; jar++) {
            due("road " + jar, x.told(jar, 0), (jar / 2 + 1 + jar % 2) % 12);
            due("jar " + jar, x.told(jar, 1), 0);
        }
        due("road 22", x.told(22, 0), 0);
        due("road 23", x.told(23, 0), 1);
        due("year", x.told(LEAST, 2), 0);
        int[] counts = {0, 0, 0, 1, 0, 0};
        for (int what = 0; what < 6; what++) {
            due("count(" + what + ")", x.count(what), counts[what]);
        }
        due("NONE", RoadsNotGoneBy.NONE, -1);
        due("BAD", RoadsNotGoneBy.BAD, -2);
        due("STATE", RoadsNotGoneBy.STATE, -3);
        due("FULL", RoadsNotGoneBy.FULL, -4);
        due("NO", RoadsNotGoneBy.NO, -4611686018427387904L);
    }

    private static void setAndTold() {
        promise = "2, 4";
        RoadsNotGoneBy x = new RoadsNotGoneBy();
        x.life(3, 7, 4);
        int[][] sets = {{0, 0, 11, 1}, {0, 23, 0, 1}, {1, 0, 999, 0}, {1, 23, 1, 0}, {2, -5, 999, 0}, {3, 0, 9, 7},
            {4, 0, 11, 4}, {5, 0, -99, 0}, {5, 0, 99, -99}, {6, 0, 999, 0}};
        for (int[] s : sets) {
            due("set(" + s[0] + ", " + s[1] + ", " + s[2] + ")", x.set(s[0], s[1], s[2]), s[3]);
            due("told(" + s[1] + ", " + s[0] + ")", x.told(s[1], s[0]), s[2]);
        }
        due("told(0, 7)", x.told(0, 7), 3);
        int[][] bad = {{0, -1, 0}, {0, 24, 0}, {0, 0, -1}, {0, 0, 12}, {1, -1, 0}, {1, 24, 0}, {1, 0, -1}, {1, 0, 1000},
            {2, 0, -1}, {2, 0, 1000}, {3, -1, 0}, {3, 1, 0}, {3, 0, -1}, {3, 0, 10}, {4, 1, 0}, {4, 0, -1}, {4, 0, 12},
            {5, 1, 0}, {5, 0, -100}, {5, 0, 100}, {6, 1, 0}, {6, 0, -1}, {6, 0, 1000}, {7, 0, 0}, {-1, 0, 0},
            {8, 0, 0}, {LEAST, 0, 0}, {GREATEST, 0, 0}, {0, LEAST, 0}, {0, GREATEST, 0}, {5, 0, LEAST}};
        for (int[] s : bad) {
            due("set(" + s[0] + ", " + s[1] + ", " + s[2] + ")", x.set(s[0], s[1], s[2]), -1000);
        }
        for (int[] s : new int[][] {{0, 0, 11}, {0, 1, 999}, {0, 2, 999}, {0, 3, 9}, {0, 4, 11}, {0, 5, 99}, {0, 6, 999}}) {
            due("unchanged told(" + s[0] + ", " + s[1] + ")", x.told(s[0], s[1]), s[2]);
        }
        int[][] none = {{24, 0}, {-1, 0}, {24, 1}, {-1, 1}, {1, 3}, {-1, 4}, {1, 5}, {1, 6}, {1, 7}, {-1, 7}, {1, 8}, {-1, 8},
            {1, 9}, {-1, 9}, {12, 10}, {-1, 10}, {0, 11}, {0, -1}, {LEAST, 7}, {GREATEST, 8}, {0, GREATEST}};
        for (int[] t : none) {
            due("told(" + t[0] + ", " + t[1] + ")", x.told(t[0], t[1]), -1000);
        }
        x.life(0, 0, 11);
        x.life(0, 0, 2);
        due("told(11, 10)", x.told(11, 10), 3);
        due("told(2, 10)", x.told(2, 10), 4);
        due("told(0, 10)", x.told(0, 10), 0);
    }

    private static void life() {
        promise = "3";
        RoadsNotGoneBy x = new RoadsNotGoneBy();
        due("life", x.life(5, 9, 11), 0);
        int[][] bad = {{-1, 0, 0}, {6, 0, 0}, {0, -1, 0}, {0, 10, 0}, {0, 0, -1}, {0, 0, 12}, {LEAST, 0, 0}, {0, GREATEST, 0}};
        for (int[] l : bad) {
            due("bad life", x.life(l[0], l[1], l[2]), -2);
        }
        due("count", x.count(0), 1);
        for (int i = 1; i < 5; i++) {
            due("life " + i, x.life(i, i, i), i);
        }
        due("full", x.life(0, 0, 0), -4);
        due("bad ahead of full", x.life(6, 0, 0), -2);
        due("count", x.count(0), 5);
    }

    private static void tellsByKind() {
        promise = "4";
        RoadsNotGoneBy x = ruledBy("takes 1 ; puts 60 ; feels 1 ;");
        for (int kind = 0; kind < 5; kind++) {
            x.life(kind, 5, 3);
        }
        int[] roads = {1, 1, 0, 1, 0};
        int[] put = {60, 99, 61, 99, 30};
        for (int kind = 0; kind < 5; kind++) {
            due("takes of " + kind, x.told(kind, 8), roads[kind]);
            due("puts of " + kind, x.told(kind, 9), put[kind]);
        }
        x.set(5, 3, -1);
        due("sad GIRL", x.told(3, 8), 0);
        x.set(1, 6, 2);
        due("CLERGYMAN by the fuller", x.told(2, 8), 1);
        due("BISHOP in YEAR 0", x.told(4, 8), 0);
        x.set(2, 0, 1);
        due("BISHOP in YEAR 1", x.told(4, 8), 1);
        x.set(1, 7, 2);
        due("CLERGYMAN, alike", x.told(2, 8), 0);
        RoadsNotGoneBy y = ruledBy("takes 2 ; puts 0-9 ; feels 1 ;");
        y.life(1, 4, 4);
        y.life(3, 4, 4);
        y.life(3, 4, 5);
        y.life(5, 3, 0);
        y.life(4, 3, 0);
        due("ENGINEER at NUMBER", y.told(0, 8), 1);
        due("GIRL at NUMBER", y.told(1, 8), 1);
        due("GIRL elsewhere", y.told(2, 8), 0);
        due("WOMAN", y.told(3, 8), 1);
        y.set(5, 1, -1);
        y.set(5, 2, -1);
        due("sad GIRL at NUMBER", y.told(1, 8), 0);
        due("sad GIRL elsewhere", y.told(2, 8), 1);
        due("puts below 0", y.told(0, 9), 0);
        due("puts of GIRL, below 0", y.told(1, 9), 4);
        due("puts of WOMAN", y.told(3, 9), 0);
        due("puts of BISHOP", y.told(4, 9), 0);
        RoadsNotGoneBy z = ruledBy("takes 0 - 3 ; puts 500 ; feels 1 ;");
        z.life(0, 0, 0);
        z.life(2, 0, 0);
        z.life(4, 0, 0);
        due("odd below 0", z.told(0, 8), 1);
        due("puts LIFE", z.told(0, 9), 99);
        due("puts CLERGYMAN", z.told(1, 9), 99);
        due("puts BISHOP, laid once", z.told(2, 9), 50);
        due("takes 1000 is 99", takesOf("1000"), 1);
        due("takes -1000 is -99", takesOf("- 1000"), 1);
        due("takes 98", takesOf("98"), 0);
    }

    private static int takesOf(String e) {
        RoadsNotGoneBy x = ruledBy("takes " + e + " ; puts 0 ; feels 0 ;");
        x.life(0, 0, 0);
        return x.told(0, 8);
    }

    private static void tastes() {
        promise = "5";
        RoadsNotGoneBy x = ruledBy("takes 0 ; puts 0 ; feels jar - 100 ;");
        for (int kind = 0; kind < 5; kind++) {
            x.life(kind, 7, 0);
        }
        x.set(1, 2, 70);
        x.set(1, 3, 999);
        int[] sour = {-30, 0, -30, 0, -23};
        int[] sweet = {99, 99, 99, 198, 106};
        for (int kind = 0; kind < 5; kind++) {
            due("sour to " + kind, x.tastes(kind, 2), sour[kind]);
            due("sweet to " + kind, x.tastes(kind, 3), sweet[kind]);
            due("empty to 0", x.tastes(0, 4), -99);
        }
        x.set(6, 2, 3);
        x.set(6, 4, 3);
        due("overdone CLERGYMAN", x.tastes(2, 2), 30);
        due("overdone BISHOP", x.tastes(4, 2), 37);
        x.set(6, 2, 2);
        due("not overdone", x.tastes(2, 2), -30);
        x.set(6, 0, 9);
        due("LIFE never overdoes", x.tastes(0, 2), -30);
        RoadsNotGoneBy y = new RoadsNotGoneBy();
        y.life(5, 9, 0);
        due("WOMAN", y.tastes(0, 0), 0);
        due("none such", y.tastes(1, 0), -1000);
        due("none such", y.tastes(-1, 0), -1000);
        due("no JAR", y.tastes(0, 24), -1000);
        due("no JAR", y.tastes(0, -1), -1000);
    }

    private static void feedAndText() {
        promise = "6, 7";
        RoadsNotGoneBy x = new RoadsNotGoneBy();
        due("feed(-1)", x.feed(-1), -2);
        due("feed(256)", x.feed(256), -2);
        due("feed(0)", x.feed(0), 1);
        due("feed(255)", x.feed(255), 2);
        due("text()", x.text(), -100);
        due("tape", x.count(4), 0);
        due("text() of nothing", x.text(), -100);
        for (int i = 1; i <= 160; i++) {
            due("feed", x.feed(32), i);
        }
        due("full", x.feed(32), -4);
        due("bad ahead of full", x.feed(256), -2);
        due("blanks", x.text(), -260);
        for (int i = 1; i < 6; i++) {
            feedAll(x, PLAIN);
            due("text " + i, x.text(), i);
        }
        due("tape", x.feed('z'), 1);
        due("no room", x.text(), -4);
        due("the tape stays", x.count(4), 1);
        due("texts", x.count(3), 6);
        StringBuilder longest = new StringBuilder("takes 1");
        while (longest.length() < 160 - 17) {
            longest.append("*1");
        }
        longest.append(";puts 1 ;feels 1;");
        due("the longest", longest.length(), 160);
        due("the longest", read(longest.toString()), 1);
    }

    private static void grammar() {
        promise = "7";
        String[] good = {"takes1;puts2;feels3;", "\n takes\n1 ; puts 2 ; feels 3 ; \n ", "takes 9999;puts 0000;feels 1;",
            "takes not not 1;puts 1 or 0 and not 1;feels 1<2;", "takes 1<2 and 2=3;puts (1<2)<3;feels -1*-2;",
            "takes crossing+jar+number+year+mood+eaten;puts 1;feels 1;", "takes 1 - -1;puts --1;feels not -1;",
            "takes 1or 2and 3;puts 1;feels 1;"};
        for (String g : good) {
            due(g, read(g), 1);
        }
    }

    private static void faultAt(String before, String fault, String after) {
        due(before + " >" + fault + "< " + after, read(before + fault + after), -100 - before.length());
    }

    private static void faults() {
        promise = "7";
        faultAt("", "puts", " 1;");
        faultAt("", "Takes", " 1;");
        faultAt("takes ", ";", "");
        faultAt("takes 1", "", "");
        faultAt("takes 1 ; puts 1 ; feels 1 ;  ", "@", "");
        faultAt("takes 1 ; puts 1 ; feels 1 ; ", "takes", " 1");
        faultAt("takes 1 ; puts 1 ; feels 1  ", "", "");
        faultAt("takes ", "12345", " ;");
        faultAt("takes ", "00001", " ;");
        faultAt("takes 1 ", "12345", " ;");
        faultAt("takes ", "crossings", ";");
        faultAt("takes ", "jarjar", ";");
        faultAt("takes ", "jarz", ";");
        faultAt("takes ", "ajar", ";");
        faultAt("takes jar", "`", ";");
        faultAt("takes year", "3", ";");
        faultAt("takes 3", "year", ";");
        faultAt("takes 1 < 2 ", "<", " 3;");
        faultAt("takes 1 = 2 ", "=", " 3;");
        faultAt("takes 1 + ", "not", " 1;");
        faultAt("takes 1 < ", "not", " 1;");
        faultAt("takes - ", "not", " 1;");
        faultAt("takes (1 ", ";", "");
        faultAt("takes 1 ", ")", ";");
        faultAt("takes 1 ; ", "feels", " 1;");
        faultAt("takes ", "takes", " 1;");
        faultAt("takes ", "+", "1;");
        faultAt("takes 1 or ", "and", " 2;");
        faultAt("takes ", "or", " 2;");
        faultAt("takes 1 * ", "*", " 2;");
        faultAt("takes (", ")", ";");
        faultAt("takes 1", "\t", "; puts");
        faultAt("takes 1 ", "{", "; puts");
        faultAt("takes 1 ", "\u00e9", "; puts");
        faultAt("takes 1 ", "/", " 2;");
        faultAt("takes 1 ", "2", " @");
    }

    private static void openOnes() {
        promise = "7";
        String end = ";puts 1;feels 1;";
        due("5 (", read("takes (((((1)))))" + end), 1);
        faultAt("takes (((((", "(", "1))))))" + end);
        due("5 not", read("takes not not not not not 1" + end), 1);
        faultAt("takes not not not not not ", "not", " 1" + end);
        due("5 -", read("takes -----1" + end), 1);
        faultAt("takes -----", "-", "1" + end);
        faultAt("takes not not not not not ", "(", "1)" + end);
        faultAt("takes not not not not not 1 < ", "-", "1" + end);
        faultAt("takes ((not not -", "-", "1))" + end);
        due("- between two", read("takes (((((1-2-3)))))" + end), 1);
        due("closed again", read("takes (((((1)))))+(((((1)))))" + end), 1);
        due("closed again", read("takes -----1*-----1" + end), 1);
        due("closed again", read("takes not not not not not 1 and not not not not not 1" + end), 1);
        due("closed by a ;", read("takes -----1;puts -----1;feels -----1;"), 1);
        faultAt("takes ((((-", "(", "1)))))" + end);
    }

    private static void tellsEach(String e, int value) {
        RoadsNotGoneBy x = ruledBy("takes 0 ; puts 0 ; feels " + e + " ;");
        x.life(0, 3, 4);
        x.set(2, 0, 7);
        x.set(5, 0, -8);
        x.set(6, 0, 9);
        x.set(1, 10, 11);
        due(e, x.tastes(0, 10), value);
    }

    private static void reckoning() {
        promise = "7";
        tellsEach("crossing", 4);
        tellsEach("jar", 11);
        tellsEach("number", 3);
        tellsEach("year", 7);
        tellsEach("mood", -8);
        tellsEach("eaten", 9);
        tellsEach("1 + 2 * 3", 7);
        tellsEach("(1 + 2) * 3", 9);
        tellsEach("9 - 3 - 2", 4);
        tellsEach("9 - (3 - 2)", 8);
        tellsEach("- 3 * 2 + 1", -5);
        tellsEach("2 * - 3", -6);
        tellsEach("1 < 2", 1);
        tellsEach("2 < 2", 0);
        tellsEach("2 = 2", 1);
        tellsEach("2 = 3", 0);
        tellsEach("1 + 1 = 2", 1);
        tellsEach("not 0", 1);
        tellsEach("not 5", 0);
        tellsEach("not 1 = 2", 1);
        tellsEach("not 0 and 0", 0);
        tellsEach("7 or 0", 1);
        tellsEach("0 or 0", 0);
        tellsEach("7 and 8", 1);
        tellsEach("1 or 1 and 0", 1);
        tellsEach("(1 or 1) and 0", 0);
        tellsEach("9999 * 9999 * 9999 * 43 < 0", 9999 * 9999 * 9999 * 43 < 0 ? 1 : 0);
        tellsEach("(256 * 256 * 256 * 128 < 0) + 2 * (256 * 256 * 256 * 256 = 0)", 3);
        tellsEach("- (256 * 256 * 256 * 128) < 0", 1);
        tellsEach("1000", 99);
        tellsEach("- 1000", -99);
        RoadsNotGoneBy x = ruledBy("takes jar = 30 ; puts jar ; feels jar ;");
        x.life(0, 0, 5);
        x.set(1, 10, 10);
        x.set(1, 11, 20);
        due("both JARS, takes", x.told(0, 8), 1);
        due("both JARS, puts", x.told(0, 9), 30);
        due("one JAR, feels", x.tastes(0, 11), 20);
    }

    private static void force() {
        promise = "8";
        RoadsNotGoneBy x = new RoadsNotGoneBy();
        due("force(1)", x.force(1), -2);
        due("force(-1)", x.force(-1), -2);
        due("force(0)", x.force(0), 0);
        feedAll(x, "takes 1;puts 7;feels 1;");
        x.text();
        x.life(0, 0, 0);
        due("puts by TEXT 0", x.told(0, 9), 2);
        due("force(1)", x.force(1), 0);
        due("puts by TEXT 1", x.told(0, 9), 7);
        due("force(2)", x.force(2), -2);
        due("rule", x.count(5), 1);
        due("force(0)", x.force(0), 1);
    }

    private static void year() {
        promise = "9";
        RoadsNotGoneBy x = ruledBy("takes jar = 999 ; puts 1 ; feels 1 ;");
        x.life(0, 0, 0);
        x.life(0, 0, 0);
        x.set(1, 1, 998);
        due("year()", x.year(), 1000);
        due("as all is then", x.told(0, 4) * 100 + x.told(1, 4), 102);
        due("JAR 0", x.told(0, 1), 1);
        due("JAR 1", x.told(1, 1), 999);
        due("YEAR", x.count(2), 1);
        x.set(1, 3, 999);
        x.set(4, 0, 1);
        x.set(4, 1, 5);
        x.set(1, 2, 1);
        due("year()", x.year(), 2001);
        due("JAR 3 holds 999", x.told(3, 1), 999);
        x.set(2, 0, 998);
        due("last year", x.year() >= 0 ? 0 : 1, 0);
        due("no year more", x.year(), -3);
        due("YEAR", x.count(2), 999);
    }

    private static void spoon() {
        promise = "10";
        RoadsNotGoneBy x = ruledBy("takes 0 ; puts 1 ; feels jar - eaten ;");
        x.life(3, 0, 0);
        x.set(1, 5, 60);
        due("none such", x.spoon(1, 5), -1000);
        due("none such", x.spoon(-1, 5), -1000);
        due("no JAR", x.spoon(0, 24), -1000);
        due("no JAR", x.spoon(0, -1), -1000);
        due("empty", x.spoon(0, 4), -1003);
        due("spoon", x.spoon(0, 5), 99);
        due("JAR", x.told(5, 1), 59);
        due("EATEN", x.told(0, 6), 1);
        x.set(5, 0, -99);
        due("spoon", x.spoon(0, 5), -99 + 2 * 58);
        x.set(6, 0, 999);
        due("spoon", x.spoon(0, 5), 17);
        due("EATEN stays", x.told(0, 6), 999);
        x.life(0, 0, 0);
        x.set(6, 1, 500);
        x.set(5, 1, -50);
        due("MOOD is held", x.spoon(1, 5), -99);
        x.set(1, 5, 1);
        due("the last spoon", x.spoon(0, 5), -1 + 18);
        due("empty", x.spoon(0, 5), -1003);
    }

    private static void run() {
        promise = "11";
        RoadsNotGoneBy x = new RoadsNotGoneBy();
        x.life(5, 0, 9);
        x.life(0, 0, 0);
        due("0 years", x.run(0, 0, 0), 9);
        due("0 years", x.run(0, 0, 1), 1 << 9);
        due("4 years", x.run(0, 4, 0), 1);
        due("4 years", x.run(0, 4, 1), 1 << 9 | 1 << 10 | 1 << 11 | 1 | 1 << 1);
        due("all jars", x.run(0, 4, 2), 8);
        due("JAR 1", x.run(0, 4, 11), 2);
        due("JAR 3", x.run(0, 4, 12), 0);
        x.set(2, 0, 999);
        due("past 999", x.run(1, 60, 2), 120);
        due("nothing changes", x.count(1) + x.count(2), 999);
        int[][] bad = {{2, 0, 0}, {-1, 0, 0}, {0, -1, 0}, {0, 61, 0}, {0, 0, -1}, {0, 0, 3}, {0, 0, 9}, {0, 0, 34}, {2, 0, 2}};
        for (int[] r : bad) {
            due("run(" + r[0] + ", " + r[1] + ", " + r[2] + ")", x.run(r[0], r[1], r[2]), -2);
        }
    }

    private static void otherwise() {
        promise = "12";
        RoadsNotGoneBy x = ruledBy("takes 0 ; puts 3 ; feels 0 ;");
        x.life(2, 0, 0);
        x.life(5, 0, 0);
        due("otherwise(0, 1, 0)", x.otherwise(0, 1, 0), 2);
        due("otherwise(1, 5, 0)", x.otherwise(1, 5, 0), 6);
        due("otherwise(1, 5, 4)", x.otherwise(1, 5, 4), 6);
        x.set(0, 0, 0);
        x.set(0, 1, 0);
        due("the other JAR is more then", x.otherwise(0, 1, 0), 0);
        x.set(0, 1, 5);
        // CLERGYMAN: turned in YEAR 0 he leaves road 0 (JAR 0 has 4) but is at 5 by it.
        due("otherwise(0, 1, 0)", x.otherwise(0, 1, 0), 5);
        // He takes ROAD 0 (JAR 1: 4), then ROAD 0 again, turned: 5.
        due("otherwise(0, 2, 1)", x.otherwise(0, 2, 1), 5);
        x.set(0, 1, 0);
        x.set(0, 0, 7);
        // Turned he takes ROAD 1 (JAR 0: 4), then the emptier JAR 1 again, and stays; unturned he is at 7 at once.
        due("otherwise(0, 2, 0)", x.otherwise(0, 2, 0), 0);
        int[][] bad = {{2, 1, 0}, {-1, 1, 0}, {0, 0, 0}, {0, 41, 0}, {0, 3, 3}, {0, 3, -1}, {0, -1, 0}, {0, 0, -1}};
        for (int[] o : bad) {
            due("otherwise(" + o[0] + ", " + o[1] + ", " + o[2] + ")", x.otherwise(o[0], o[1], o[2]), -2);
        }
        due("n 40", x.otherwise(1, 40, 39) >= 0 ? 0 : 1, 0);
    }

    private static void turnsAndLikely() {
        promise = "13, 14";
        RoadsNotGoneBy x = new RoadsNotGoneBy();
        due("no road", x.turns(3, 3, 0), 1);
        due("no road", x.turns(3, 4, 0), 0);
        due("3 on by 2", x.turns(11, 2, 2), 2);
        due("4 on by 2", x.turns(11, 3, 2), 1);
        due("5 on by 4", x.turns(0, 5, 4), 4);
        due("likely", x.likely(0, 5, 4, 0), 1);
        due("likely", x.likely(0, 5, 4, 1), 4);
        due("unlikely", x.likely(0, 9, 4, 0), 0);
        due("unlikely", x.likely(0, 9, 4, 1), 1);
        x.set(0, 0, 0);
        x.set(0, 1, 0);
        due("two roads are two ways", x.turns(0, 0, 30), 1L << 30);
        due("sure", x.likely(0, 0, 30, 1), 1);
        long no = RoadsNotGoneBy.NO;
        int[][] bad = {{-1, 0, 0, 0}, {12, 0, 0, 0}, {0, -1, 0, 0}, {0, 12, 0, 0}, {0, 0, -1, 0}, {0, 0, 31, 0}};
        for (int[] t : bad) {
            due("turns", x.turns(t[0], t[1], t[2]), no);
            due("likely", x.likely(t[0], t[1], t[2], t[3]), no);
        }
        due("part", x.likely(0, 0, 0, 2), no);
        due("part", x.likely(0, 0, 0, -1), no);
    }

    private static void fewest() {
        promise = "15";
        RoadsNotGoneBy x = ruledBy("takes year = 1 or year = 1000 ; puts 50 ; feels 0 ;");
        x.life(0, 0, 0);
        due("3 on in 2 years", x.fewest(0, 3, 2), 0);
        due("2 on in 2 years", x.fewest(0, 2, 2), 1);
        due("4 on in 2 years", x.fewest(0, 4, 2), 1);
        due("5 on in 2 years", x.fewest(0, 5, 2), RoadsNotGoneBy.NONE);
        due("there already", x.fewest(0, 0, 0), 0);
        x.set(2, 0, 999);
        due("YEAR past 999", x.fewest(0, 3, 2), 0);
        due("2 on from 999 in 1", x.fewest(0, 2, 1), 1);
        x.life(2, 0, 0);
        x.set(0, 0, 0);
        due("nothing is put by", x.fewest(1, 0, 30), 0);
        int[][] bad = {{2, 0, 0}, {-1, 0, 0}, {0, 12, 0}, {0, -1, 0}, {0, 0, 31}, {0, 0, -1}};
        for (int[] f : bad) {
            due("fewest", x.fewest(f[0], f[1], f[2]), -2);
        }
    }

    private static void meet() {
        promise = "16";
        RoadsNotGoneBy x = new RoadsNotGoneBy();
        x.life(5, 0, 0);
        x.life(5, 1, 6);
        x.life(5, 0, 1);
        due("6 behind, 1 a year", x.meet(0, 1), 6);
        due("6 behind, 1 a year", x.meet(1, 0), 6);
        due("never", x.meet(0, 2), RoadsNotGoneBy.NONE);
        x.set(4, 2, 0);
        due("now", x.meet(0, 2), 0);
        due("itself", x.meet(1, 1), -2);
        due("none such", x.meet(0, 3), -2);
        due("none such", x.meet(-1, 0), -2);
        due("both none such", x.meet(3, 3), -2);
        meetAt(60, 60);
        meetAt(61, RoadsNotGoneBy.NONE);
    }

    // One goes round 0 .. 11 and turns off to 1 .. by a road that opens in the year told.
    private static void meetAt(int years, int due) {
        RoadsNotGoneBy x = ruledBy("takes number = 1 and year = " + (years - 1) + " ; puts 0 ; feels 0 ;");
        x.life(0, 1, 0);
        x.life(0, 0, 5);
        x.set(0, 0, 0);
        x.set(0, 1, 5);
        x.set(0, 10, 5);
        due("meet behind " + years, x.meet(0, 1), due);
    }

    private static void shut() {
        promise = "17";
        RoadsNotGoneBy x = ruledBy("takes 0 ; puts crossing ; feels 0 ;");
        due("no LIVES", x.shut(40, 0), RoadsNotGoneBy.NONE);
        x.life(0, 0, 0);
        due("0 years", x.shut(0, 0), RoadsNotGoneBy.NONE);
        due("0 + 1, or 0 + 2", x.shut(2, 0), 1);
        due("0 + 1, or 0 + 2", x.shut(2, 1), 2);
        due("shut 1 or 2: 0 + 2 + 3, 0 + 1 + 3", x.shut(3, 0), 1);
        due("nothing changes", x.told(0, 0), 1);
        x.set(1, 5, 10);
        due("what stands counts", x.shut(2, 1), 12);
        x.set(0, 2, 1);
        due("1 to 1: shut 1 leads to 2, 3", x.shut(3, 1), 10 + 0 + 2 + 3);
        int[][] bad = {{-1, 0}, {41, 0}, {0, -1}, {0, 2}};
        for (int[] s : bad) {
            due("shut", x.shut(s[0], s[1]), -2);
        }
        RoadsNotGoneBy y = ruledBy("takes 0 ; puts crossing = 0 ; feels 0 ;");
        y.life(0, 0, 9);
        y.set(0, 18, 10);
        y.set(0, 20, 11);
        due("behind 11 is 0", y.shut(3, 0), 10);
        y.set(0, 18, 11);
        y.set(0, 22, 11);
        due("all roads to 11 go to 0", y.shut(2, 0), 11);
    }

    private static void best() {
        promise = "18";
        RoadsNotGoneBy x = ruledBy("takes 0 ; puts 0 ; feels 0 - jar ;");
        x.life(0, 0, 0);
        x.life(5, 0, 0);
        due("none", x.best(0, 0), RoadsNotGoneBy.NONE);
        due("none", x.best(0, 1), 0);
        due("none", x.best(0, 2), RoadsNotGoneBy.NONE);
        x.set(1, 3, 9);
        x.set(1, 8, 4);
        x.set(1, 9, 4);
        x.set(1, 20, 9);
        due("the first of like ones", x.best(0, 0), 8);
        due("below 0", x.best(0, 1), -4);
        due("the fullest, first", x.best(0, 2), 3);
        due("WOMAN", x.best(1, 0), 3);
        due("WOMAN", x.best(1, 1), 0);
        due("none such", x.best(2, 0), -1000);
        due("none such", x.best(2, 2), -1000);
        due("none such", x.best(-1, 1), -1000);
        due("what", x.best(0, 3), -1000);
        due("what", x.best(0, -1), -1000);
    }

    private static void tells() {
        promise = "19";
        RoadsNotGoneBy x = ruledBy("takes mood < 0 - 90 ; puts 0 ; feels 0 ;");
        x.life(0, 3, 2);
        x.life(5, 1, 2);
        cells(x, 0, 0, 3, 4);
        cells(x, 1, 2, 3, 4, 6);
        cells(x, 2, 1, 4, 6);
        due("as told", x.tells(0, 0, 0), RoadsNotGoneBy.NONE);
        due("otherwise", x.tells(1, 0, 0), 2);
        due("otherwise at once", x.tells(2, 0, 0), 0);
        due("KINDS", x.tells(0, 0, 1), 1 << 0 | 1 << 2 | 1 << 4);
        due("KINDS", x.tells(2, 0, 1), 1 << 5);
        due("NUMBERS", x.tells(0, 0, 2), 1023);
        due("NUMBERS of a WOMAN", x.tells(2, 1, 2), 1 << 1 | 1 << 3 | 1 << 5 | 1 << 7 | 1 << 9);
        due("CROSSINGS", x.tells(0, 0, 3), 1 << 2);
        due("CROSSINGS", x.tells(0, 1, 3), 0);
        due("MOODS", x.tells(0, 0, 4), 190);
        due("the least", x.tells(0, 0, 5), -90);
        due("MOODS", x.tells(2, 0, 4), 9);
        due("the least", x.tells(2, 0, 5), -99);
        due("MOODS", x.tells(1, 0, 4), 0);
        due("the least", x.tells(1, 0, 5), -100);
        due("TEXTS", x.tells(0, 0, 6), 3);
        due("TEXTS", x.tells(2, 0, 6), 0);
        due("LIVES", x.tells(0, 0, 7), 1);
        due("LIVES", x.tells(2, 0, 7), 2);
        x.force(0);
        due("MOODS by a rule that names none", x.tells(0, 0, 4), 199);
        x.life(3, 0, 5);
        cells(x, 3, 0, 7);
        due("GIRL", x.tells(3, 2, 5), 0);
        due("GIRL", x.tells(3, 2, 4), 100);
        cells(x, 3, 0, 6);
        due("sad GIRL", x.tells(3, 2, 5), -99);
        due("sad GIRL", x.tells(3, 2, 4), 99);
        tellsMoodsByPuts();
        refusesTells(x);
    }

    private static void tellsMoodsByPuts() {
        RoadsNotGoneBy x = ruledBy("takes jar = 5 ; puts mood ; feels 0 ;");
        feedAll(x, "takes jar = 7 ; puts mood ; feels 0 ;");
        x.text();
        x.life(0, 0, 0);
        x.set(0, 0, 0);
        cells(x, 0, 0, 0, 2);
        due("only by MOOD 5 the JAR has 5", x.tells(0, 0, 4), 1);
        due("only by MOOD 5 the JAR has 5", x.tells(0, 0, 5), 5);
        x.force(2);
        due("only by MOOD 7 the JAR has 7", x.tells(0, 0, 4), 1);
        due("only by MOOD 7 the JAR has 7", x.tells(0, 0, 5), 7);
    }

    private static void refusesTells(RoadsNotGoneBy x) {
        x.sheet(3, -1, 0);
        due("no SHEET", x.tells(-1, 0, 0), -1002);
        due("no SHEET", x.tells(4, 0, 0), -1002);
        due("none such", x.tells(3, 9, 0), -1002);
        due("none such", x.tells(3, -1, 0), -1002);
        due("none such", x.tells(3, 9, 7), -1002);
        due("what", x.tells(3, 0, 8), -1002);
        due("what", x.tells(3, 0, -1), -1002);
        due("missing", x.tells(3, 0, 0), -1011);
        x.sheet(3, 0, 31);
        due("too long", x.tells(3, 0, 7), -1003);
        x.sheet(3, 0, 30);
        due("just as long as can be", x.tells(3, 0, 0), 0);
        x.sheet(3, 0, 0);
        due("nothing told", x.tells(3, 0, 0), RoadsNotGoneBy.NONE);
        due("nothing told", x.tells(3, 0, 3), 4095);
        due("nothing told", x.tells(3, 0, 4), 199);
        due("nothing told", x.tells(3, 0, 6), 3);
        due("nothing told", x.tells(3, 0, 7), 7);
    }

    private static void film() {
        promise = "20";
        RoadsNotGoneBy x = new RoadsNotGoneBy();
        x.life(5, 0, 10);
        x.life(5, 1, 0);
        due("film", x.film(1, 0, 3), 3);
        due("film tells", x.tells(1, 0, 0), RoadsNotGoneBy.NONE);
        cells(x, 0, 0, 11, 0, 1);
        due("film tells", x.tells(0, 0, 0), RoadsNotGoneBy.NONE);
        due("3 items", x.cell(1, 3, 0), -12);
        due("bytes", x.copy(1, 0, 0, 0, 3), 3);
        due("nothing changes", x.told(0, 4), 10);
        due("30", x.film(1, 0, 30), 30);
        due("0", x.film(2, 0, 0), 0);
        due("0 is not missing", x.tells(2, 0, 0), RoadsNotGoneBy.NONE);
        int[][] bad = {{-1, 0, 0}, {4, 0, 0}, {3, 2, 0}, {3, -1, 0}, {3, 0, -1}, {3, 0, 31}};
        for (int[] f : bad) {
            due("film", x.film(f[0], f[1], f[2]), -2);
        }
        due("still missing", x.cell(3, 0, 0), -11);
    }

    private static int walked(int seed, int at, int n) {
        int z = seed;
        int where = at;
        for (int i = 0; i < n; i++) {
            z = z * 1103515245 + 12345;
            where = (where + 1 + (z >>> 9) % 2) % 12;
        }
        return where;
    }

    private static void drawnAndChance() {
        promise = "21, 22";
        RoadsNotGoneBy x = new RoadsNotGoneBy();
        x.life(5, 0, 7);
        due("seed 0: 12345 >>> 9 is 24", x.drawn(0, 0, 1), 8);
        due("seed 1: 1103527590 >>> 9 is 2155327", x.drawn(1, 0, 1), 9);
        for (int seed : new int[] {0, 1, -1, 77, LEAST, GREATEST}) {
            due("drawn", x.drawn(seed, 0, 40), walked(seed, 7, 40));
            due("drawn", x.drawn(seed, 0, 0), 7);
        }
        due("none such", x.drawn(0, 1, 0), -2);
        due("none such", x.drawn(0, -1, 0), -2);
        due("n", x.drawn(0, 0, 41), -2);
        due("n", x.drawn(0, 0, -1), -2);
        for (int m = 1; m <= 40; m += 13) {
            for (int to = 0; to < 12; to++) {
                int hits = 0;
                for (int i = 0; i < m; i++) {
                    hits += walked(GREATEST - 2 + i, 7, 8) == to ? 1 : 0;
                }
                int common = m;
                while (hits % common != 0 || m % common != 0) {
                    common--;
                }
                due("chance above", x.chance(GREATEST - 2, m, 0, to, 0), hits / common);
                due("chance below", x.chance(GREATEST - 2, m, 0, to, 1), m / common);
            }
        }
        int[][] bad = {{0, 0, 0, 0}, {41, 0, 0, 0}, {1, 1, 0, 0}, {1, -1, 0, 0}, {1, 0, 12, 0}, {1, 0, -1, 0}, {1, 0, 0, 2}, {1, 0, 0, -1}};
        for (int[] c : bad) {
            due("chance", x.chance(0, c[0], c[1], c[2], c[3]), RoadsNotGoneBy.NO);
        }
    }

    private static void imageAndBack() {
        promise = "23, 24";
        RoadsNotGoneBy x = new RoadsNotGoneBy();
        due("none", x.back(), -3);
        x.life(1, 2, 3);
        feedAll(x, PLAIN);
        x.text();
        int[][] sets = {{0, 5, 7}, {1, 6, 8}, {2, 0, 9}, {3, 0, 4}, {4, 0, 5}, {5, 0, -6}, {6, 0, 7}};
        for (int[] s : sets) {
            x.set(s[0], s[1], s[2]);
        }
        due("image", x.image(), 1);
        for (int[] s : sets) {
            x.set(s[0], s[1], 1);
        }
        x.force(1);
        x.life(0, 0, 0);
        feedAll(x, PLAIN);
        x.text();
        x.feed('a');
        x.sheet(2, 1, 5);
        due("back", x.back(), 1);
        for (int[] s : sets) {
            due("told(" + s[1] + ", " + s[0] + ")", x.told(s[1], s[0]), s[2]);
        }
        due("LIVES", x.count(0), 1);
        due("RULE", x.count(5), 0);
        due("TEXTS stay", x.count(3), 3);
        due("THE TAPE stays", x.count(4), 1);
        due("SHEETS stay", x.cell(2, 4, 0), 1);
        due("one who came goes", x.told(1, 4), -1000);
        x.set(4, 0, 0);
        due("a new one has no MOOD", x.life(2, 1, 1), 1);
        due("back again", x.back(), 1);
        due("AT", x.told(0, 4), 5);
        x.set(5, 0, 3);
        due("a later image", x.image(), 1);
        x.set(5, 0, 4);
        x.back();
        due("MOOD", x.told(0, 5), 3);
        x.life(0, 0, 0);
        x.set(5, 1, 50);
        x.set(6, 1, 50);
        x.back();
        x.life(0, 0, 0);
        due("MOOD of a new one", x.told(1, 5), 0);
        due("EATEN of a new one", x.told(1, 6), 0);
    }

    private static void count() {
        promise = "25";
        RoadsNotGoneBy x = new RoadsNotGoneBy();
        x.life(0, 0, 0);
        x.set(1, 0, 999);
        x.set(1, 23, 2);
        x.set(2, 0, 77);
        feedAll(x, PLAIN);
        x.text();
        x.force(1);
        x.feed(0);
        x.feed(0);
        int[] due = {1, 1001, 77, 2, 2, 1};
        for (int what = 0; what < 6; what++) {
            due("count(" + what + ")", x.count(what), due[what]);
        }
        due("count(6)", x.count(6), -2);
        due("count(-1)", x.count(-1), -2);
    }

    private static void sheetAndCell() {
        promise = "26, 27";
        RoadsNotGoneBy x = new RoadsNotGoneBy();
        x.life(5, 0, 11);
        int[][] bad = {{-1, 0, 1, -2}, {4, 0, 1, -2}, {0, -2, 1, -2}, {0, 3, 1, -2}, {0, 0, 41, -2}, {0, 0, -1, -14},
            {0, 3, -1, -2}, {4, 0, -1, -2}, {0, 0, LEAST, -14}, {0, 0, GREATEST, -2}, {4, -1, 0, -2}};
        for (int[] s : bad) {
            due("sheet(" + s[0] + ", " + s[1] + ", " + s[2] + ")", x.sheet(s[0], s[1], s[2]), s[3]);
        }
        due("missing", x.cell(0, 0, 0), -11);
        due("missing ahead of outside", x.cell(0, -1, 0), -11);
        due("no SHEET", x.cell(4, 0, 0), -2);
        due("no SHEET", x.cell(-1, 0, 0), -2);
        due("40", x.sheet(0, 2, 40), 1);
        due("cell 39", x.cell(0, 39, 5), 1);
        due("cell 40", x.cell(0, 40, 5), -12);
        due("cell -1", x.cell(0, -1, 5), -12);
        due("gone", x.sheet(0, -1, 99), 1);
        due("missing", x.cell(0, 0, 0), -11);
        due("gone again", x.sheet(0, -1, -99), 1);
        int[] lowest = {256 + 0, -256, 65536 + 256};
        for (int sort = 0; sort < 3; sort++) {
            for (int v : lowest) {
                cells(x, 1, sort, v);
                boolean isNought = sort == 0 ? v % 256 == 0 : sort == 1 ? v % 65536 == 0 : v == 0;
                due("sort " + sort + " holds " + v, x.tells(1, 0, 0), isNought ? RoadsNotGoneBy.NONE : 0);
            }
        }
        cells(x, 1, 1, 65536);
        due("a short's 16 bits", x.tells(1, 0, 0), RoadsNotGoneBy.NONE);
        cells(x, 1, 2, 65536);
        due("an int's 32 bits", x.tells(1, 0, 0), 0);
        x.cell(1, 0, 5);
        x.sheet(1, 2, 1);
        due("all 0 anew", x.tells(1, 0, 0), RoadsNotGoneBy.NONE);
    }

    private static void copy() {
        promise = "28";
        RoadsNotGoneBy x = new RoadsNotGoneBy();
        x.life(5, 0, 0);
        cells(x, 0, 1, 1, 2, 3, 4, 5);
        cells(x, 1, 1, 9, 9, 1, 2, 3);
        due("copy", x.copy(1, 2, 0, 0, 3), 3);
        due("as told", x.tells(0, 0, 0), RoadsNotGoneBy.NONE);
        cells(x, 0, 1, 1, 2, 9, 9, 9);
        due("over itself", x.copy(0, 0, 0, 2, 3), 3);
        cells(x, 1, 1, 0, 0, 0, 0, 0);
        due("over itself", x.copy(0, 2, 1, 0, 3), 3);
        due("as they were: 1 2 9", x.tells(1, 0, 0), 2);
        cells(x, 0, 1, 9, 9, 1, 2, 3);
        due("over itself", x.copy(0, 2, 0, 0, 3), 3);
        due("as they were: 1 2 3 2 3", x.tells(0, 0, 0), 3);
        due("none", x.copy(0, 5, 1, 5, 0), 0);
        x.sheet(2, 0, 5);
        int[][] bad = {{-1, 0, 0, 0, 0, -2}, {4, 0, 0, 0, 0, -2}, {0, 0, -1, 0, 0, -2}, {0, 0, 4, 0, 0, -2}, {3, 0, 0, 0, 0, -11},
            {0, 0, 3, 0, 0, -11}, {4, 0, 3, 0, 0, -2}, {0, 0, 2, 0, 0, -13}, {0, 9, 2, 9, 9, -13}, {2, 9, 3, 9, 9, -11},
            {0, -1, 1, 0, 1, -12}, {0, 0, 1, -1, 1, -12}, {0, 0, 1, 0, -1, -12}, {0, 0, 1, 0, 6, -12}, {0, 1, 1, 0, 5, -12},
            {0, 0, 1, 1, 5, -12}, {0, 6, 1, 0, 0, -12}, {0, 0, 1, 6, 0, -12}, {0, GREATEST, 1, 0, 1, -12},
            {0, 0, 1, GREATEST, GREATEST, -12}, {0, LEAST, 1, LEAST, LEAST, -12}, {0, 1, 1, 1, GREATEST, -12}};
        for (int[] c : bad) {
            due("copy(" + c[0] + ", " + c[1] + ", " + c[2] + ", " + c[3] + ", " + c[4] + ")",
                x.copy(c[0], c[1], c[2], c[3], c[4]), c[5]);
        }
    }

    private static void lives() {
        promise = "29";
        RoadsNotGoneBy x = new RoadsNotGoneBy();
        cells(x, 0, 2, 9, 4, 3, 2, 6, 0, 0, 5, 1, 0);
        due("one left out", x.lives(0, 2, 1, 3), 2);
        due("KIND", x.told(0, 7), 4);
        due("NUMBER", x.told(0, 3), 3);
        due("AT", x.told(0, 4), 2);
        due("KIND", x.told(1, 7), 5);
        due("none asked", x.lives(0, 2, 1, 0), 0);
        due("what stood ahead came", x.lives(0, 2, 4, 3), -12);
        due("count", x.count(0), 3);
        due("outside at once", x.lives(0, 2, -1, 1), -12);
        due("outside at once", x.lives(0, 2, 8, 1), -12);
        due("outside at once", x.lives(0, 2, GREATEST, 5), -12);
        due("outside at once", x.lives(0, 2, LEAST, 5), -12);
        due("count", x.count(0), 3);
        cells(x, 1, 0, 0, 0, 0, 1, 1, 1, 2, 2, 2);
        due("two have room", x.lives(1, 0, 0, 3), 2);
        due("none has room", x.lives(1, 0, 0, 1), 0);
        int[][] bad = {{-1, 0, 0, 1, -2}, {4, 0, 0, 1, -2}, {1, -1, 0, 1, -2}, {1, 3, 0, 1, -2}, {1, 0, 0, -1, -2}, {1, 0, 0, 6, -2},
            {1, 1, 0, 1, -13}, {1, 2, 99, 1, -13}, {2, 0, 0, 1, -11}, {2, 0, 0, 0, -11}, {2, 3, 0, 0, -2}, {2, 0, 0, 6, -2}};
        for (int[] l : bad) {
            due("lives(" + l[0] + ", " + l[1] + ", " + l[2] + ", " + l[3] + ")", x.lives(l[0], l[1], l[2], l[3]), l[4]);
        }
    }

    private static void taken() {
        promise = "30";
        int[] asKinds = {0b000001, 0b000011, 0b000101, 0b001011, 0b010101, 0b100001};
        RoadsNotGoneBy x = new RoadsNotGoneBy();
        x.image();
        for (int kind = 0; kind < 6; kind++) {
            x.back();
            x.life(kind, 8, 0);
            for (int k = 0; k < 6; k++) {
                due("taken " + kind + " for " + k, x.taken(0, k), (asKinds[kind] >> k & 1) == 1 ? 8 : -13);
            }
        }
        due("k", x.taken(0, 6), -2);
        due("k", x.taken(0, -1), -2);
        due("k ahead of none such", x.taken(1, 6), -2);
        due("none such", x.taken(1, 0), -11);
        due("none such", x.taken(-1, 0), -11);
    }
}
