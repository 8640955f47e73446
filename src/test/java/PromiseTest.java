import java.util.NoSuchElementException;
import java.util.function.IntSupplier;

/** For each promise of the document what would not hold if it were broken. */
public final class PromiseTest {
    private static final int NONE = -1;
    private static final String IOOBE = "IndexOutOfBoundsException";
    private static final String NSEE = "NoSuchElementException";
    private static final String IAE = "IllegalArgumentException";

    /** A square with a tail, and a corner that no street goes to. */
    private static final String SQUARE = "corner 0 0;corner 4 0;corner 4 3;corner 0 3;corner 10 0;corner 60 60;"
            + "street 0 1 3 5;street 1 2 5 2;street 2 3 2 9;street 3 0 4 0;street 1 4 6 20;";

    private static int promise = 0;
    private static int passed = 0;
    private static int failed = 0;

    private static void due(String call, int got, int want) {
        if (got == want) {
            passed++;
        } else {
            failed++;
            System.out.println("promise " + promise + ": " + call + " answered " + got + ", due is " + want);
        }
    }

    private static void refused(String call, String want, IntSupplier it) {
        String got;
        try {
            got = "the answer " + it.getAsInt();
        } catch (RuntimeException e) {
            got = e.getClass().getSimpleName();
        }
        if (got.equals(want)) {
            passed++;
        } else {
            failed++;
            System.out.println("promise " + promise + ": " + call + " gave " + got + ", due is " + want);
        }
    }

    // ---- telling texts

    private static void feed(MarriedStreets x, String s) {
        for (int at = 0; at < s.length(); at += 20) {
            int[] n = new int[5];
            for (int i = 0; i < 20; i++) {
                int b = at + i < s.length() ? s.charAt(at + i) & 255 : 0;
                n[i / 4] = n[i / 4] << 8 | b;
            }
            x.feed(n[0], n[1], n[2], n[3], n[4]);
        }
    }

    private static int city(MarriedStreets x, String s) {
        feed(x, s);
        return x.city(s.length());
    }

    private static int law(MarriedStreets x, String s) {
        feed(x, s);
        return x.law(s.length());
    }

    private static int work(MarriedStreets x, String s) {
        feed(x, s);
        return x.work(s.length());
    }

    private static int post(MarriedStreets x, String s) {
        feed(x, s);
        return x.post(s.length());
    }

    private static MarriedStreets told(String s) {
        MarriedStreets x = new MarriedStreets();
        int answer = city(x, s);
        if (answer < 0) {
            failed++;
            System.out.println("promise " + promise + ": a city of the test has fault " + answer + " at " + x.fault());
        }
        return x;
    }

    /** So many streets side by side from (0,0) to (1,0), each with so many houses and trees. */
    private static String sideBySide(int many, int houses, int trees) {
        StringBuilder s = new StringBuilder("corner 0 0;corner 1 0;");
        for (int i = 0; i < many; i++) {
            s.append("street 0 1 ").append(houses).append(' ').append(trees).append(';');
        }
        return s.toString();
    }

    private static String times(int many, String s) {
        return s.repeat(many);
    }

    private static void cityFault(String s, int kind, int place) {
        MarriedStreets x = told("corner 7 7;");
        due("city(" + s + ")", city(x, s), kind - 10);
        due("fault() of " + s, x.fault(), place);
        due("told(0) behind " + s, x.told(0), 1);
        due("count(1) behind " + s, x.count(1), 0);
    }

    private static void lawFault(String s, int kind, int place) {
        MarriedStreets x = told(sideBySide(2, 1, 1));
        law(x, "1");
        due("law(" + s + ")", law(x, s), kind - 10);
        due("fault() of " + s, x.fault(), place);
        due("banns behind " + s, x.banns(0, 1), 3);
        due("count(1) behind " + s, x.count(1), 0);
    }

    private static void workFault(String s, int kind, int place) {
        MarriedStreets x = told(sideBySide(3, 1, 1));
        due("work(" + s + ")", work(x, s), kind - 10);
        due("fault() of " + s, x.fault(), place);
        due("told(3) behind " + s, x.told(3), 0);
        due("count(2) behind " + s, x.count(2), 0);
    }

    private static void postFault(String s, int kind, int place) {
        MarriedStreets x = told(sideBySide(3, 1, 1));
        post(x, "40 0;");
        due("post(" + s + ")", post(x, s), kind - 10);
        due("fault() of " + s, x.fault(), place);
        due("told(7) behind " + s, x.told(7), 1);
    }

    // ---- the promises

    private static void newObject() {
        MarriedStreets x = new MarriedStreets();
        for (int what = 0; what <= 9; what++) {
            due("told(" + what + ")", x.told(what), 0);
        }
        due("fault()", x.fault(), NONE);
        due("lane()", x.lane(), 30);
        due("stop()", x.stop(), 0);
        due("stable()", x.stable(), 1);
        due("best()", x.best(), 0);
        due("count(0)", x.count(0), 0);
        due("count(1)", x.count(1), 0);
        due("count(2)", x.count(2), 0);
        due("NONE", MarriedStreets.NONE, -1);
        refused("street(0, 0)", NSEE, () -> x.street(0, 0));
        refused("reach(0)", NSEE, () -> x.reach(0));
    }

    private static void feedPromise() {
        MarriedStreets x = new MarriedStreets();
        for (int i = 1; i <= 30; i++) {
            due("feed", x.feed(0x20202020, 0x20202020, 0x20202020, 0x20202020, 0x20202020), 20 * i);
        }
        due("feed of 601", x.feed(0, 0, 0, 0, 0), NONE);
        due("count(1)", x.count(1), 600);
        due("city of 600 blanks", x.city(600), 0);
        due("fault()", x.fault(), NONE);
        // "corner 1 2;stop" with the highest byte first, and bytes above 127.
        due("feed", x.feed(0x636f726e, 0x65722031, 0x20323bff, 0x80808080, 0xffffffff), 20);
        due("city of 11", x.city(11), 0);
        due("told(0)", x.told(0), 1);
        x.feed(0x636f726e, 0x65722031, 0x20323bff, 0x80808080, 0xffffffff);
        due("city of 12", x.city(12), -9);
        due("fault()", x.fault(), 11);
    }

    private static void cityPromise() {
        MarriedStreets x = new MarriedStreets();
        refused("city(1)", IAE, () -> x.city(1));
        refused("city(-1)", IAE, () -> x.city(-1));
        due("city(0)", x.city(0), 0);
        feed(x, SQUARE);
        refused("city behind the tape", IAE, () -> x.city(x.count(1) + 1));
        due("the tape stays", x.count(1), (SQUARE.length() + 19) / 20 * 20);
        due("city", x.city(SQUARE.length()), 5);
        due("the tape is empty", x.count(1), 0);
        cityDefaults();
        cityStartsAnew();
        cityForgets();
        cityForgetsRoads();
        cityWriting();
        cityFaults();
        cityTooMany();
    }

    private static void cityDefaults() {
        MarriedStreets x = told(sideBySide(2, 1, 1) + "likes 0 1 7;likes 0 1 3;lane 9 9 9 9;lane 5 5 0 9;river 9;river 4;");
        due("the last likes", x.likes(0, 1), 3);
        due("likes without", x.likes(1, 0), 5);
        due("the last lane and river", x.lane(), NONE);
        MarriedStreets y = told("lane 20 0 5 0;");
        due("river without", y.lane(), 4);
        city(y, "river 10;");
        due("lane without", y.lane(), 20);
        due("its way without", told("corner 30 0;corner 29 0;corner 0 0;corner 5 1;corner 30 1;").stop(), 7);
        due("a river of 0", told("river 9;river 0;").lane(), 30);
        due("streets side by side at one place", city(y, "corner 1 1;corner 1 1;street 0 1 1 0;street 1 0 20 20;"), 2);
        due("length 0", y.street(0, 4), 0);
        due("start", y.street(1, 0), 1);
        due("end", y.street(1, 1), 0);
    }

    private static void cityStartsAnew() {
        MarriedStreets x = told(sideBySide(4, 2, 3));
        law(x, "1");
        post(x, "1 1;2 2;");
        work(x, "year;plant 0 4;marry 0 0;");
        x.image();
        due("a fault leaves all", city(x, "x"), -9);
        due("year", x.told(3), 1);
        due("lines", x.told(7), 2);
        due("refused steps", x.told(8), 1);
        due("law", x.banns(0, 1), 3);
        due("images", x.count(0), 1);
        due("works", x.count(2), 1);
        due("city", city(x, sideBySide(3, 2, 1)), 3);
        due("fault()", x.fault(), NONE);
        due("year", x.told(3), 0);
        due("trees", x.told(5), 3);
        due("lines", x.told(7), 0);
        due("refused steps", x.told(8), 0);
        due("law", x.banns(0, 1), 0);
        due("images", x.count(0), 0);
        due("works", x.count(2), 0);
        due("likes again", x.likes(0, 1), 5);
        work(x, "marry 0 1;part 0;marry 0 1;");
        city(x, sideBySide(2, 2, 1));
        due("couples", x.told(4), 0);
        due("parted", x.told(9), 0);
        due("mate", x.street(0, 5), NONE);
    }

    /** Nothing of a larger city stays in a smaller one, told twice, for there may be two places to keep it. */
    private static void cityForgets() {
        MarriedStreets x = new MarriedStreets();
        for (int i = 0; i < 2; i++) {
            city(x, sideBySide(8, 20, 20) + "never 0 1;likes 0 1 0;good 9 9;good 9 9;corner 5 5;lane 60 5 1 0;river 7;");
            due("the first", x.told(5), 160);
        }
        for (int i = 0; i < 2; i++) {
            due("the second", city(x, "corner 1 1;corner 2 2;street 0 1 1 3;"), 1);
            due("trees", x.told(5), 3);
            due("corners", x.told(0), 2);
            due("goods", x.told(2), 0);
            due("bridges", x.bridges(0), 1);
            due("reach", x.reach(0), 3);
            due("fair", x.fair(0), 1);
            due("even", x.even(), 0);
            due("river and lane without", x.lane(), 30);
            refused("street(1, 0)", NSEE, () -> x.street(1, 0));
            refused("round(2)", IAE, () -> x.round(2));
        }
        for (int i = 0; i < 2; i++) {
            city(x, sideBySide(2, 1, 1));
            due("never", x.banns(0, 1), 0);
            due("likes", x.likes(0, 1), 5);
            due("best", x.best(), 10);
        }
    }

    private static void cityForgetsRoads() {
        MarriedStreets x = new MarriedStreets();
        String corners = "corner 0 0;corner 9 0;corner 0 9;corner 9 9;";
        for (int i = 0; i < 2; i++) {
            city(x, corners + "street 0 1 1 1;street 2 3 1 1;street 0 2 1 1;street 1 3 1 1;street 0 3 1 1;corner 0 0;");
            due("one piece", x.round(3), 36);
            due("no bridge", x.bridges(0), 0);
        }
        for (int i = 0; i < 2; i++) {
            city(x, corners + "street 0 1 1 1;street 2 3 1 1;");
            due("two pieces", x.round(3), NONE);
            due("two pieces", x.way(0, 2), NONE);
            due("two pieces", x.reach(0), 3);
            due("two bridges", x.bridges(0), 2);
            due("there and back", x.round(1), 18);
        }
        city(x, "corner 0 0;corner 5 0;street 0 1 1 1;");
        due("a single street", x.round(1), 10);
        city(x, times(10, "corner 3 3;"));
        due("ten corners", x.reach(9), 512);
    }

    /** What stands on the tape behind the text does not count. */
    private static void tapeBehind() {
        MarriedStreets x = new MarriedStreets();
        feed(x, "river 55;   river 9;");
        due("city(7)", x.city(7), -9);
        due("fault()", x.fault(), 7);
        feed(x, "river 5;    river 9;");
        due("city(5)", x.city(5), -9);
        due("fault()", x.fault(), 5);
        feed(x, "river 5;    ;       ");
        due("city(12)", x.city(12), 0);
        due("lane()", x.lane(), 25);
        feed(x, "river 5;    ;       ");
        due("city(7)", x.city(7), -9);
        due("fault()", x.fault(), 7);
        feed(x, "r  river 5;");
        due("city(1)", x.city(1), -9);
        due("fault()", x.fault(), 0);
        feed(x, "river 5  ;");
        due("city(8)", x.city(8), -9);
        due("fault()", x.fault(), 8);
    }

    private static void cityWriting() {
        tapeBehind();
        MarriedStreets x = told("  corner007 0 ; corner 60  0000000000000000000060;street0 1 20 20;river5;  ");
        due("no fault", x.fault(), NONE);
        due("length", x.street(0, 4), 113);
        due("trees", x.street(0, 3), 20);
        due("the whole text is read", x.lane(), 25);
    }

    private static void cityFaults() {
        cityFault("corner", 1, 6);
        cityFault("corner 1  ", 1, 10);
        cityFault("corner 1 1", 1, 10);
        cityFault("corner 1 1;;", 1, 11);
        cityFault("corner 1 1,", 1, 10);
        cityFault("corner 1,1;", 1, 8);
        cityFault("corner -1 1;", 1, 7);
        cityFault("corner 1 x;", 1, 9);
        cityFault("Corner 1 1;", 1, 0);
        cityFault("cornera 1 1;", 1, 0);
        cityFault("xorner 1 1;", 1, 0);
        cityFault("cornez 1 1;", 1, 0);
        cityFault("cornerz 1 1;", 1, 0);
        cityFault("corner 1 {;", 1, 9);
        cityFault("`orner 1 1;", 1, 0);
        cityFault("corner{1 1;", 1, 6);
        cityFault("corner 1/ 1;", 1, 8);
        cityFault("corner 1: 1;", 1, 8);
        cityFault(" corne 1 1;", 1, 1);
        cityFault("1", 1, 0);
        cityFault("corner 1\t1;", 1, 8);
        cityFault("corner 61 0;", 2, 7);
        cityFault("corner 0 61;", 2, 9);
        cityFault("corner 4294967296 0;", 2, 7);
        cityFault("corner 99999999999999999999999 x", 2, 7);
        cityFault("street 0 1 1 1;", 2, 7);
        cityFault("corner 1 1;street 0 0 1 1;", 2, 20);
        cityFault("corner 1 1;street 0 1 1 1;", 2, 20);
        cityFault("corner 1 1;corner 2 2;street 2 0 1 1;", 2, 29);
        cityFault("corner 1 1;corner 2 2;street 0 1 0 1;", 2, 33);
        cityFault("corner 1 1;corner 2 2;street 0 1 21 1;", 2, 33);
        cityFault("corner 1 1;corner 2 2;street 0 1 1 21;", 2, 35);
        cityFault("likes 0 1 1;", 2, 6);
        cityFault("never 0 1;", 2, 6);
        String two = "corner 0 0;corner 1 1;street 0 1 1 1;street 0 1 1 1;";
        int n = two.length();
        cityFault(two + "likes 0 2 1;", 2, n + 8);
        cityFault(two + "likes 1 1 1;", 2, n + 8);
        cityFault(two + "likes 1 0 10;", 2, n + 10);
        cityFault(two + "likes 1 0;", 1, n + 9);
        cityFault(two + "never 1 1;", 2, n + 8);
        cityFault(two + "never 0 2;", 2, n + 8);
        cityFault(two + "never 2 0;", 2, n + 6);
        cityFault("good 10 0;", 2, 5);
        cityFault("good 0 10;", 2, 7);
        cityFault("lane 61 0 0 0;", 2, 5);
        cityFault("lane 0 61 0 0;", 2, 7);
        cityFault("lane 0 0 10 0;", 2, 9);
        cityFault("lane 0 0 0 10;", 2, 11);
        cityFault("river 61;", 2, 6);
        cityFault("river;", 1, 5);
    }

    private static void cityTooMany() {
        cityFault(times(10, "corner 1 1;") + " corner 1 1;", 3, 111);
        cityFault(times(8, "good 1 1;") + "good x", 3, 72);
        cityFault(sideBySide(8, 1, 1) + "street 9", 3, sideBySide(8, 1, 1).length());
        cityFault(times(60, "river 1;") + "river 1;", 3, 480);
        cityFault(times(60, "river 1;") + "rivers 1;", 1, 480);
        cityFault(times(60, "river 1;") + "  ;", 1, 482);
        due("60 clauses", city(new MarriedStreets(), times(60, "river 1;") + "  "), 0);
        due("all of the most", city(new MarriedStreets(), times(8, "corner 1 1;") + sideBySide(8, 1, 1)
                + times(8, "good 1 1;")), 8);
    }

    private static void lawPromise() {
        MarriedStreets x = told(sideBySide(2, 1, 1));
        refused("law(1)", IAE, () -> x.law(1));
        refused("law(-1)", IAE, () -> x.law(-1));
        feed(x, " ".repeat(149) + "1");
        refused("law(151)", IAE, () -> x.law(151));
        due("the tape stays", x.count(1), 160);
        due("law(150)", x.law(150), 1);
        due("the tape is empty", x.count(1), 0);
        due("banns", x.banns(0, 1), 3);
        lawFaults();
        lawValues();
    }

    private static void lawFaults() {
        lawFault("", 1, 0);
        lawFault("  ", 1, 2);
        lawFault("1 1", 1, 2);
        lawFault("1 hers", 1, 2);
        lawFault("hers1", 1, 4);
        lawFault("her", 1, 0);
        lawFault("hersy + 1", 1, 0);
        lawFault("1 +", 1, 3);
        lawFault("1 + + 1", 1, 4);
        lawFault("- 1", 1, 0);
        lawFault("1 * ", 1, 4);
        lawFault("(1", 1, 2);
        lawFault("(1]", 1, 2);
        lawFault("1)", 1, 1);
        lawFault("()", 1, 1);
        lawFault("least(1,2)", 1, 5);
        lawFault("least [1]", 1, 8);
        lawFault("most [1,2", 1, 9);
        lawFault("most [1,2,3]", 1, 9);
        lawFault("1;", 1, 1);
        lawFault("1000", 2, 0);
        lawFault("1 + 1000 +", 2, 4);
        lawFault("99999999999", 2, 0);
        lawFault("(((((((1)))))))", 3, 6);
        lawFault("((((((least", 3, 6);
        lawFault("((((((mosty", 1, 6);
        lawFault("least[least[least[least[least[least[most[1,1],1],1],1],1],1],1]", 3, 36);
        lawFault("least[1,((((((1))))))]", 3, 13);
        MarriedStreets x = told(sideBySide(2, 1, 1));
        due("six of one and of the next", law(x, "((((((1)))))) + least[most[((((1)))),1],((1))]"), 1);
        due("fault()", x.fault(), NONE);
    }

    /** That a LAW has just that value for these banns. */
    private static void lawValue(MarriedStreets x, String law, int value) {
        law(x, law + (value < 0 ? " + " + -value : " - " + value));
        due(law + " is at most " + value, x.banns(0, 1), 0);
        law(x, law + (value < 0 ? " + " + -value : " - " + value) + " + 1");
        due(law + " is at least " + value, x.banns(0, 1), 3);
    }

    private static void lawValues() {
        MarriedStreets x = told(SQUARE + "likes 0 1 7;likes 1 0 2;");
        lawValue(x, "0", 0);
        lawValue(x, "999", 999);
        lawValue(x, "hers", 3);
        lawValue(x, "his", 5);
        lawValue(x, "trees", 7);
        lawValue(x, "likes", 7);
        lawValue(x, "liked", 2);
        lawValue(x, "cross", 1);
        lawValue(x, "length", 7);
        lawValue(x, "year", 0);
        lawValue(x, "holes", 0);
        lawValue(x, "9-3-2", 4);
        lawValue(x, "2+3*4", 14);
        lawValue(x, "(2+3)*4", 20);
        lawValue(x, "100/7/2", 7);
        lawValue(x, "7/2*2", 6);
        lawValue(x, "(0-7)/2", -3);
        lawValue(x, "7/(hers-3)", 0);
        lawValue(x, "least[3,2]", 2);
        lawValue(x, "least[2,3]", 2);
        lawValue(x, "most[3,2]*2", 6);
        lawValue(x, "most[0-3,0-2]", -2);
        lawValue(x, "1 - least [ 5 , 3 - 4 ] ", 2);
        lawValue(x, "512*512*512*16 / 512 / 512 / 512", -16);
        lawValue(x, "(0-512*512*512*16) / (0-1) / 512 / 512 / 512", -16);
        lawValue(x, "512*512*512*32 + 8", 8);
        law(x, "0");
        work(x, "year;marry 0 1;quarrel 0;plant 0 6;year;year;");
        lawValue(x, "0 + 0 + 4", 4);
        lawValue(x, "year", 3);
        lawValue(x, "holes", 2);
        lawValue(x, "trees", 13);
        MarriedStreets y = told(sideBySide(2, 1, 1));
        lawValue(y, "cross", 2);
        MarriedStreets z = told("corner 0 0;corner 1 0;corner 0 0;corner 1 0;street 0 1 1 1;street 3 2 1 1;");
        lawValue(z, "cross", 0);
        MarriedStreets u = told("corner 0 0;corner 1 0;corner 2 0;street 0 1 1 1;street 2 0 1 1;");
        lawValue(u, "cross", 1);
    }

    private static void workPromise() {
        MarriedStreets x = told(sideBySide(4, 3, 5));
        refused("work(1)", IAE, () -> x.work(1));
        refused("work(-1)", IAE, () -> x.work(-1));
        feed(x, " ".repeat(160));
        refused("work(151)", IAE, () -> x.work(151));
        due("the tape stays", x.count(1), 160);
        due("work of blanks", x.work(150), 0);
        due("it is there", x.count(2), 1);
        due("work of nothing", x.work(0), 0);
        due("it is there", x.count(2), 2);
        workFaults();
        workSteps();
        workYears();
        workLimit();
        workSixteen();
    }

    private static void workFaults() {
        workFault("year", 1, 4);
        workFault("year;x", 1, 5);
        workFault("years;", 1, 0);
        workFault("year;;", 1, 5);
        workFault("year 1;", 1, 5);
        workFault("marry 0;", 1, 7);
        workFault("marry 0 3;", 2, 8);
        workFault("marry 3 0;", 2, 6);
        workFault("part 3;", 2, 5);
        workFault("quarrel 3;", 2, 8);
        workFault("repave 3;", 2, 7);
        workFault("plant 3 1;", 2, 6);
        workFault("plant 0 0;", 2, 8);
        workFault("plant 0 10;", 2, 8);
        workFault("again 21 [year;];", 2, 6);
        workFault("again 2 year;", 1, 8);
        workFault("again 2 [year];", 1, 13);
        workFault("again 2 [year;]", 1, 15);
        workFault("again 2 [year;", 1, 14);
        workFault("again 2 [year;year", 1, 18);
        workFault("again [];", 1, 6);
        workFault("year;];", 1, 5);
        workFault("again 1[again 1[again 1[again 1[again 1[again 1[again", 3, 48);
        workFault("again 1[again 1[again 1[again 1[again 1[again 1[agains", 1, 48);
        MarriedStreets x = told(sideBySide(2, 1, 1));
        due("six agains, again and again",
                work(x, times(2, "again 1[again 1[again 1[again 1[again 1[again 1[year;];];];];];];")), 2);
    }

    private static void workSteps() {
        MarriedStreets x = told(sideBySide(5, 3, 5) + "never 2 0;");
        due("marry 0 0", work(x, "marry 0 0;"), 0);
        due("never", work(x, "marry 0 2;marry 2 0;"), 0);
        due("two refused", x.told(8), 2);
        due("marry", work(x, "marry 3 1;marry 1 0;marry 0 3;marry 3 1;"), 1);
        due("three refused", x.told(8), 3);
        due("mate", x.street(1, 5), 3);
        due("she", x.street(3, 6), 1);
        due("he", x.street(1, 6), 0);
        law(x, "hers");
        due("by the law", work(x, "marry 0 4;"), 0);
        law(x, "0");
        due("part of one alone", work(x, "part 0;"), 0);
        due("plant", work(x, "plant 1 2;plant 0 9;"), 2);
        due("trees", x.street(1, 3), 7);
        work(x, "plant 1 3;");
        due("trees", x.street(1, 3), 10);
        due("part by him", work(x, "part 1;"), 1);
        due("she gets what is left over", x.street(3, 3), 8);
        due("he gets the half", x.street(1, 3), 7);
        due("parted", x.told(9), 1);
        due("nobody", x.street(1, 5), NONE);
        due("nobody", x.street(3, 5), NONE);
        due("she no more", x.street(3, 6), 0);
        workTreesAndHoles();
    }

    private static void workTreesAndHoles() {
        MarriedStreets x = told(sideBySide(3, 3, 5));
        due("to 99", work(x, "again 10 [plant 0 9;];plant 0 3;plant 0 8;plant 0 1;"), 12);
        due("refused at 99", x.told(8), 1);
        due("99", x.street(0, 3), 99);
        due("no quarrel alone", work(x, "quarrel 0;"), 0);
        due("no repaving without holes", work(x, "repave 0;"), 0);
        due("quarrels", work(x, "marry 0 1;again 4 [quarrel 0;];"), 5);
        due("holes", x.street(1, 8), 4);
        due("part keeps holes", work(x, "part 0;marry 1 2;again 10 [quarrel 2;];"), 11);
        due("9 at most", x.street(1, 8), 9);
        due("one hole for each quarrel", x.street(2, 8), 9);
        due("both have 9", x.told(8), 1);
        due("repaved with its mate", work(x, "repave 2;repave 1;"), 1);
        due("no holes", x.street(1, 8), 0);
        due("but the third", x.told(6), 4);
        due("repaved alone", work(x, "repave 0;repave 0;"), 1);
        due("no holes", x.told(6), 0);
        MarriedStreets y = told(sideBySide(8, 3, 5));
        work(y, "marry 0 1;quarrel 0;part 0;marry 1 2;");
        due("for the mate's holes", work(y, "repave 2;"), 1);
        due("no holes of the mate", y.street(1, 8), 0);
        due("but of the one that was", y.street(0, 8), 1);
        work(y, "marry 7 6;year;quarrel 6;");
        due("holes of the last", y.street(7, 8), 1);
        due("years of the last", y.street(7, 7), 1);
        due("the last is she", y.street(7, 6), 1);
        due("mate of the last", y.street(7, 5), 6);
        due("years of the first", y.street(0, 7), 0);
        MarriedStreets z = told(sideBySide(2, 3, 5));
        work(z, "marry 0 1;year;");
        due("one couple", z.told(4), 1);
    }

    private static void workYears() {
        MarriedStreets x = told(sideBySide(4, 3, 4));
        work(x, "marry 0 1;again 5 [quarrel 0;];marry 2 3;again 4 [quarrel 3;];again 5 [plant 0 1;];");
        due("year", work(x, "year;"), 1);
        due("the year", x.told(3), 1);
        due("10 holes part", x.street(0, 5), NONE);
        due("trees are shared", x.street(0, 3), 7);
        due("trees are shared", x.street(1, 3), 6);
        due("8 holes don't", x.street(2, 5), 3);
        due("parted", x.told(9), 1);
        work(x, "again 20 [year;];again 3 [year;];marry 0 1;");
        due("24 years", x.street(2, 7), 24);
        due("0 years", x.street(1, 7), 0);
        due("0 years alone", told(sideBySide(1, 1, 1)).street(0, 7), 0);
        work(x, "quarrel 2;year;");
        due("repaved ahead of parting", x.street(3, 5), 2);
        due("no holes", x.street(3, 8), 0);
        work(x, "repave 0;quarrel 2;again 20 [year;];again 5 [year;];");
        due("50 years", x.street(3, 7), 50);
        due("repaved at 50", x.street(3, 8), 0);
        due("year 50", x.told(3), 50);
        due("to 200", work(x, "again 20 [again 20 [year;];];"), 150);
        due("the year", x.told(3), 200);
        due("refused from 200 on", x.told(8), 39);
        due("no years longer", x.street(3, 7), 200);
        due("no more", work(x, "year;"), 0);
    }

    private static void workLimit() {
        MarriedStreets x = told(sideBySide(2, 1, 1));
        due("200 steps", work(x, "again 20 [year;again 20 [year;];];repave 0;"), 190);
        due("the year", x.told(3), 190);
        due("none behind is refused", x.told(8), 0);
        MarriedStreets y = told(sideBySide(2, 1, 1));
        due("refused ones, too", work(y, "again 20 [again 20 [repave 1;];];year;"), 0);
        due("refused", y.told(8), 189);
        MarriedStreets z = told(sideBySide(2, 1, 1));
        due("agains of nothing, too", work(z, "again 20 [again 20 [again 20 [];];];year;"), 0);
        due("none", z.told(8), 0);
        due("no times", work(z, "again 0 [year;];again 20 [];year;"), 1);
        MarriedStreets u = told(sideBySide(2, 1, 1));
        due("the 200th", work(u, "again 9 [again 20 [year;];];again 8 [year;];year;year;"), 189);
        due("the year", u.told(3), 189);
    }

    private static void workSixteen() {
        MarriedStreets x = told(sideBySide(2, 1, 1));
        for (int i = 1; i <= 16; i++) {
            work(x, i == 16 ? "marry 0 0;" : "year;");
            due("works", x.count(2), i);
        }
        law(x, "z");
        due("a fault", x.fault(), 0);
        refused("the exception comes first", IAE, () -> x.work(1));
        due("the fault stays", x.fault(), 0);
        due("ahead of the fault", work(x, "zz"), -20);
        due("no fault", x.fault(), NONE);
        due("the tape is empty", x.count(1), 0);
        due("nothing done", work(x, "year;"), -20);
        due("the year", x.told(3), 15);
        due("refused steps stay", x.told(8), 1);
        due("undo", x.undo(), 15);
        due("there is room", work(x, "year;"), 1);
    }

    private static void postPromise() {
        MarriedStreets x = told(sideBySide(2, 3, 1));
        refused("post(1)", IAE, () -> x.post(1));
        refused("post(-1)", IAE, () -> x.post(-1));
        feed(x, "1 1;" + " ".repeat(116));
        refused("post(101)", IAE, () -> x.post(101));
        due("the tape stays", x.count(1), 120);
        due("post(100)", x.post(100), 1);
        due("lines", x.told(7), 1);
        due("eight", post(x, "1 0;2 1;3 20;4 0;5 0;6 0;7 0;40 0;"), 8);
        due("post(0)", x.post(0), 0);
        due("lines", x.told(7), 0);
        postFault("1", 1, 1);
        postFault("1 1", 1, 3);
        postFault("1 1;;", 1, 4);
        postFault("1;", 1, 1);
        postFault("x", 1, 0);
        postFault("0 1;", 2, 0);
        postFault("41 1;", 2, 0);
        postFault("1 21;", 2, 2);
        postFault("1 1;2 1;01 1;", 2, 8);
        postFault("1 0;2 0;3 0;4 0;5 0;6 0;7 0;8 0; 9", 3, 33);
        postFault("1 0;2 0;3 0;4 0;5 0;6 0;7 0;8 0;8 0;", 2, 32);
        postFault("1 0;2 0;3 0;4 0;5 0;6 0;7 0;8 0;41 0;", 2, 32);
        postFault("1 0;2 0;3 0;4 0;5 0;6 0;7 0;8 0;x", 1, 32);
    }

    private static void faultPromise() {
        MarriedStreets x = new MarriedStreets();
        due("without", x.fault(), NONE);
        city(x, "corner 61");
        due("of a city", x.fault(), 7);
        refused("city(1)", IAE, () -> x.city(1));
        due("an exception leaves it", x.fault(), 7);
        x.image();
        x.restore();
        due("an image leaves it", x.fault(), 7);
        law(x, "1");
        due("of a law without", x.fault(), NONE);
        work(x, " part 0;");
        due("of a work", x.fault(), 6);
        post(x, "1 1;");
        due("of a post without", x.fault(), NONE);
    }

    private static void undoPromise() {
        MarriedStreets x = told(sideBySide(4, 3, 5));
        due("none", x.undo(), -1);
        work(x, "marry 0 1;quarrel 0;plant 2 3;year;");
        work(x, "part 0;repave 0;marry 2 3;marry 2 3;");
        work(x, "");
        work(x, "quarrel 0;");
        due("refused", x.told(8), 1);
        due("undo a refused one", x.undo(), 3);
        due("refused", x.told(8), 0);
        due("undo one of no steps", x.undo(), 2);
        due("couple", x.street(2, 5), 3);
        work(x, "quarrel 0;");
        x.undo();
        due("undo", x.undo(), 1);
        due("parted", x.told(9), 0);
        due("mate", x.street(1, 5), 0);
        due("she", x.street(0, 6), 1);
        due("holes", x.told(6), 2);
        due("years", x.street(0, 7), 1);
        due("no couple", x.street(2, 5), NONE);
        due("undo", x.undo(), 0);
        due("year", x.told(3), 0);
        due("trees", x.told(5), 20);
        due("couples", x.told(4), 0);
        work(x, "marry 0 0;");
        x.undo();
        work(x, "quarrel 0;");
        x.undo();
        due("none", x.undo(), -1);
        law(x, "1");
        work(x, "part 0;");
        x.undo();
        due("the law stays", x.banns(0, 1), 3);
        MarriedStreets y = told(sideBySide(1, 1, 1));
        work(y, "part 0;");
        work(y, "x");
        due("a fault leaves refused steps", y.told(8), 1);
    }

    private static void toldPromise() {
        MarriedStreets x = told(SQUARE + "good 1 1;good 2 2;");
        post(x, "1 1;2 1;3 1;");
        work(x, "marry 0 1;marry 2 3;quarrel 3;part 0;year;year;part 4;part 4;part 4;plant 1 2;");
        int[] due = {6, 5, 2, 2, 1, 38, 2, 3, 3, 1};
        for (int what = 0; what <= 9; what++) {
            due("told(" + what + ")", x.told(what), due[what]);
        }
        refused("told(10)", IAE, () -> x.told(10));
        refused("told(-1)", IAE, () -> x.told(-1));
        due("restore without", x.restore(), -1);
        due("it leaves refused steps", x.told(8), 3);
    }

    private static void streetPromise() {
        MarriedStreets x = told(SQUARE);
        work(x, "marry 4 2;year;year;quarrel 2;plant 4 3;");
        int[] due = {1, 4, 6, 23, 6, 2, 1, 2, 1};
        int[] mate = {2, 3, 2, 9, 4, 4, 0, 2, 1};
        int[] alone = {1, 2, 5, 2, 3, NONE, 0, 0, 0};
        for (int what = 0; what <= 8; what++) {
            due("street(4, " + what + ")", x.street(4, what), due[what]);
            due("street(2, " + what + ")", x.street(2, what), mate[what]);
            due("street(1, " + what + ")", x.street(1, what), alone[what]);
        }
        refused("street(5, 0)", NSEE, () -> x.street(5, 0));
        refused("street(-1, 9)", NSEE, () -> x.street(-1, 9));
        refused("street(0, 9)", IAE, () -> x.street(0, 9));
        refused("street(0, -1)", IAE, () -> x.street(0, -1));
        due("steps both ways", told("corner 7 1;corner 2 9;street 0 1 1 1;").street(0, 4), 13);
    }

    private static void likesPromise() {
        MarriedStreets x = told(SQUARE + "likes 0 4 9;likes 4 0 0;");
        due("likes(0, 4)", x.likes(0, 4), 9);
        due("likes(4, 0)", x.likes(4, 0), 0);
        due("likes(1, 0)", x.likes(1, 0), 5);
        refused("likes(0, 0)", IAE, () -> x.likes(0, 0));
        refused("likes(5, 5)", NSEE, () -> x.likes(5, 5));
        refused("likes(0, 5)", NSEE, () -> x.likes(0, 5));
        refused("likes(0, -1)", NSEE, () -> x.likes(0, -1));
        refused("likes(5, 0)", NSEE, () -> x.likes(5, 0));
        refused("likes(-1, 0)", NSEE, () -> x.likes(-1, 0));
    }

    private static void bannsPromise() {
        MarriedStreets x = told(SQUARE + "never 3 1;");
        due("yes", x.banns(0, 1), 0);
        due("one", x.banns(1, 1), 1);
        due("never", x.banns(1, 3), 2);
        due("never", x.banns(3, 1), 2);
        law(x, "hers - his");
        due("by the law", x.banns(1, 0), 3);
        due("the first as she", x.banns(0, 1), 0);
        law(x, "1");
        due("never is less", x.banns(3, 1), 2);
        due("one is least", x.banns(3, 3), 1);
        law(x, "0");
        work(x, "marry 0 1;");
        due("married or not", x.banns(1, 2), 0);
        refused("banns(5, 0)", NSEE, () -> x.banns(5, 0));
        refused("banns(0, 5)", NSEE, () -> x.banns(0, 5));
        refused("banns(-1, 5)", NSEE, () -> x.banns(-1, 5));
        refused("banns(5, 5)", NSEE, () -> x.banns(5, 5));
    }

    private static void numberPromise() {
        MarriedStreets x = told(SQUARE);
        due("alone", x.number(4, 6), 6);
        work(x, "marry 4 2;");
        due("hers", x.number(4, 1), 1);
        due("hers", x.number(4, 6), 11);
        due("his", x.number(2, 1), 2);
        due("his", x.number(2, 2), 4);
        refused("number(2, 3)", IOOBE, () -> x.number(2, 3));
        refused("number(2, 0)", IOOBE, () -> x.number(2, 0));
        refused("number(2, -1)", IOOBE, () -> x.number(2, -1));
        refused("number(5, 0)", NSEE, () -> x.number(5, 0));
        refused("number(-1, 1)", NSEE, () -> x.number(-1, 1));
        work(x, "part 2;");
        due("alone again", x.number(4, 6), 6);
    }

    private static void letterPromise() {
        MarriedStreets x = told(SQUARE);
        due("alone", x.letter(4, 6), 406);
        due("the first house", x.letter(4, 1), 401);
        due("the first street", x.letter(0, 1), 1);
        due("alone, nowhere", x.letter(4, 7), NONE);
        work(x, "marry 2 4;");
        due("hers", x.letter(4, 1), 201);
        due("hers", x.letter(2, 3), 202);
        due("none of hers", x.letter(2, 5), NONE);
        due("his", x.letter(2, 2), 401);
        due("his", x.letter(4, 12), 406);
        due("none of his", x.letter(4, 14), NONE);
        due("99", x.letter(4, 99), NONE);
        refused("letter(4, 0)", IAE, () -> x.letter(4, 0));
        refused("letter(4, 100)", IAE, () -> x.letter(4, 100));
        refused("letter(5, 0)", NSEE, () -> x.letter(5, 0));
    }

    private static void lastPromise() {
        MarriedStreets x = told(SQUARE);
        due("alone", x.last(4), 6);
        work(x, "marry 2 4;marry 1 3;");
        due("his", x.last(4), 12);
        due("of the couple", x.last(2), 12);
        due("hers", x.last(1), 9);
        due("of the couple", x.last(3), 9);
        refused("last(5)", NSEE, () -> x.last(5));
        refused("last(-1)", NSEE, () -> x.last(-1));
    }

    private static void missingPromise() {
        MarriedStreets x = told(SQUARE);
        due("alone", x.missing(4), 0);
        work(x, "marry 4 2;marry 0 1;");
        due("of the couple", x.missing(4), 3);
        due("of the couple", x.missing(2), 3);
        due("of the other couple", x.missing(0), 2);
        refused("missing(5)", NSEE, () -> x.missing(5));
        refused("missing(-1)", NSEE, () -> x.missing(-1));
    }

    /** A round of three, each of whom likes the next one more. */
    private static final String CIRCLE = "likes 0 1 9;likes 1 2 9;likes 2 0 9;likes 1 0 3;likes 2 1 3;likes 0 2 3;";

    private static void stablePromise() {
        MarriedStreets x = told(sideBySide(3, 1, 1) + CIRCLE);
        due("none", x.stable(), 0);
        due("nobody, for there is none", x.stableFor(0), NONE);
        x.feed(0, 0, 0, 0, 0);
        MarriedStreets y = told(sideBySide(3, 1, 1) + CIRCLE + "never 2 0;");
        due("no never", y.stable(), 1);
        due("0 alone", y.stableFor(0), NONE);
        due("1 and 2", y.stableFor(1), 2);
        MarriedStreets z = told(sideBySide(4, 1, 1));
        due("all alike", z.stable(), 3);
        due("two alone make no stable one", told(sideBySide(2, 1, 1)).stable(), 1);
        due("none who likes by 0 leaves", told(sideBySide(2, 1, 1) + "likes 0 1 0;").stable(), 2);
        law(z, "likes - 4");
        due("all refused", z.stable(), 1);
        law(z, "0");
        work(z, "marry 0 1;");
        due("those not married", z.stable(), 1);
        MarriedStreets u = told(sideBySide(1, 2, 1) + "street 0 1 1 1;");
        law(u, "hers - his");
        due("the lesser as she", u.stable(), 1);
        due("the lesser as she", u.stableFor(0), NONE);
        law(u, "his - hers");
        due("the lesser as she", u.stableFor(0), 1);
    }

    private static void stableForPromise() {
        MarriedStreets x = told(sideBySide(4, 1, 1));
        due("the first: 0 and 1", x.stableFor(0), 1);
        due("the first: 2 and 3", x.stableFor(3), 2);
        work(x, "marry 1 2;");
        due("who is left", x.stableFor(0), 3);
        due("a married one", x.stableFor(1), NONE);
        refused("stableFor(4)", NSEE, () -> x.stableFor(4));
        refused("stableFor(-1)", NSEE, () -> x.stableFor(-1));
        MarriedStreets y = told(sideBySide(2, 1, 1) + "likes 0 1 0;");
        due("alone ahead of others", y.stableFor(0), NONE);
    }

    private static void bestPromise() {
        MarriedStreets x = told(sideBySide(4, 1, 1) + "likes 0 3 9;likes 3 0 4;likes 1 2 2;likes 2 1 1;");
        due("0 1, 2 3", x.best(), 20);
        MarriedStreets y = told(sideBySide(4, 1, 1) + "likes 0 3 9;likes 3 0 4;likes 1 2 4;likes 2 1 4;");
        due("0 3, 1 2", y.best(), 21);
        law(y, "likes - 8");
        due("0 3 refused", y.best(), 20);
        work(y, "marry 0 1;");
        due("2 3 alone are left", y.best(), 10);
        MarriedStreets z = told(sideBySide(3, 1, 1) + "never 0 1;never 1 2;never 0 2;");
        due("no never", z.best(), 0);
    }

    private static void bestForPromise() {
        MarriedStreets x = told(sideBySide(3, 1, 1));
        due("0 alone ahead of others", x.bestFor(0), NONE);
        due("1 and 2", x.bestFor(1), 2);
        due("1 and 2", x.bestFor(2), 1);
        MarriedStreets y = told(sideBySide(4, 1, 1));
        due("the lowest", y.bestFor(0), 1);
        due("the lowest", y.bestFor(3), 2);
        work(y, "marry 3 0;");
        due("who is left", y.bestFor(1), 2);
        due("a married one", y.bestFor(0), NONE);
        refused("bestFor(4)", NSEE, () -> y.bestFor(4));
        refused("bestFor(-1)", NSEE, () -> y.bestFor(-1));
        MarriedStreets z = told(sideBySide(2, 1, 1) + "likes 0 1 0;likes 1 0 0;");
        due("no warmer as a couple", z.bestFor(0), NONE);
    }

    private static void temptedPromise() {
        MarriedStreets x = told(sideBySide(4, 1, 1) + "never 0 1;never 0 2;never 0 3;likes 1 2 0;likes 3 1 6;likes 1 3 6;");
        due("the least that could be", x.tempted(), 13);
        work(x, "marry 1 3;");
        due("none leaves 6 for 5", x.tempted(), NONE);
        work(x, "part 1;marry 2 3;");
        due("3 would leave 2", x.tempted(), 13);
        law(x, "likes - 5");
        due("but for the law", x.tempted(), NONE);
        MarriedStreets y = told(sideBySide(3, 1, 1) + "never 0 1;");
        work(y, "marry 0 2;");
        due("not for as much", y.tempted(), NONE);
        MarriedStreets z = told("corner 0 0;corner 1 1;street 0 1 2 1;street 0 1 1 1;");
        law(z, "hers - his");
        due("the lesser as she", z.tempted(), NONE);
        law(z, "his - hers");
        due("the lesser as she", z.tempted(), 1);
        MarriedStreets u = told(sideBySide(4, 1, 1) + "likes 2 3 9;likes 3 2 9;");
        work(u, "marry 0 2;marry 1 3;");
        due("both married to others", u.tempted(), 23);
    }

    private static void wayPromise() {
        MarriedStreets x = told(SQUARE + "street 4 3 1 1;");
        due("itself", x.way(5, 5), 0);
        due("one street", x.way(0, 1), 4);
        due("two", x.way(0, 2), 7);
        due("back", x.way(2, 0), 7);
        due("by the shortest", x.way(3, 4), 13);
        due("none", x.way(0, 5), NONE);
        due("none back", x.way(5, 0), NONE);
        refused("way(6, 0)", NSEE, () -> x.way(6, 0));
        refused("way(0, 6)", NSEE, () -> x.way(0, 6));
        refused("way(-1, 0)", NSEE, () -> x.way(-1, 0));
        MarriedStreets y = told("corner 0 0;corner 1 0;corner 2 0;corner 3 0;corner 4 0;corner 5 0;corner 6 0;corner 7 0;"
                + "corner 8 0;street 8 7 1 1;street 7 6 1 1;street 6 5 1 1;street 5 4 1 1;street 4 3 1 1;street 3 2 1 1;"
                + "street 2 1 1 1;street 1 0 1 1;");
        due("a long one", y.way(0, 8), 8);
        due("a long one", y.way(8, 0), 8);
    }

    private static void roundPromise() {
        MarriedStreets x = told(SQUARE + "corner 60 50;street 5 6 1 1;");
        due("none is told", x.round(0), 0);
        due("round the square", x.round(15), 14);
        due("there and back", x.round(1), 8);
        due("the tail", x.round(16), 12);
        due("all but the last", x.round(31), 26);
        due("two across", x.round(5), 14);
        due("two side by side", x.round(3), 14);
        due("tail and the far side", x.round(16 | 4), 26);
        due("no way", x.round(32 | 1), NONE);
        due("the last", x.round(32), 20);
        refused("round(64)", IAE, () -> x.round(64));
        refused("round(-1)", IAE, () -> x.round(-1));
        refused("round(1 << 31)", IAE, () -> x.round(1 << 31));
        MarriedStreets y = told(sideBySide(8, 1, 1));
        due("eight side by side", y.round(255), 8);
        due("seven of them", y.round(127), 8);
        refused("round(256)", IAE, () -> y.round(256));
        MarriedStreets z = told("corner 0 0;corner 1 0;corner 2 0;corner 3 0;"
                + "street 0 1 1 1;street 1 2 1 1;street 2 3 1 1;street 0 1 1 1;street 2 3 1 1;");
        due("two rings and a way between", z.round(1 | 4 | 8 | 16), 6);
        due("by one that is not told", z.round(1 | 4), 6);
        MarriedStreets u = told("corner 0 0;corner 1 0;corner 2 0;corner 3 0;corner 4 0;"
                + "street 3 4 1 1;street 2 3 1 1;street 1 2 1 1;street 0 1 1 1;");
        due("a line from its end", u.round(15), 8);
        due("its ends", u.round(9), 8);
        due("its middle", u.round(4), 2);
        MarriedStreets v = told("corner 0 0;corner 1 0;corner 2 0;corner 3 0;street 2 3 1 1;street 0 1 1 1;street 1 2 1 1;");
        due("in another order", v.round(7), 6);
        due("in another order", v.round(3), 6);
    }

    private static void reachPromise() {
        MarriedStreets x = told(SQUARE);
        due("the square", x.reach(4), 31);
        due("itself", x.reach(5), 32);
        refused("reach(6)", NSEE, () -> x.reach(6));
        refused("reach(-1)", NSEE, () -> x.reach(-1));
    }

    private static void bridgesPromise() {
        MarriedStreets x = told(SQUARE);
        due("how many", x.bridges(0), 1);
        due("the first", x.bridges(1), 4);
        refused("bridges(2)", IAE, () -> x.bridges(2));
        refused("bridges(-1)", IAE, () -> x.bridges(-1));
        MarriedStreets y = told("corner 0 0;corner 1 0;corner 2 0;street 0 1 1 1;street 1 2 1 1;");
        due("how many", y.bridges(0), 2);
        due("the first", y.bridges(1), 0);
        MarriedStreets z = told(sideBySide(2, 1, 1));
        due("side by side", z.bridges(0), 0);
        due("side by side", z.bridges(1), NONE);
    }

    private static void fairPromise() {
        MarriedStreets x = told("good 6 3;good 2 6;good 4 4;");
        due("how many", x.fair(0), 1);
        due("the first", x.fair(1), 1);
        MarriedStreets y = told("good 5 5;");
        due("one good", y.fair(0), 0);
        due("one good", y.fair(1), NONE);
        MarriedStreets z = told("good 5 0;");
        due("the one has it", z.fair(0), 1);
        due("the one has it", z.fair(1), 1);
        MarriedStreets u = told("good 3 3;good 3 3;");
        due("alike", u.fair(0), 2);
        due("the least bits", u.fair(1), 1);
        MarriedStreets v = told("good 0 9;good 0 9;");
        due("nothing for nothing", v.fair(1), 0);
        due("the other one has at least the half", v.fair(0), 3);
        refused("fair(2)", IAE, () -> x.fair(2));
        refused("fair(-1)", IAE, () -> x.fair(-1));
    }

    private static void evenPromise() {
        due("even", told("good 6 3;good 2 6;good 4 4;").even(), 6);
        due("one good", told("good 9 9;").even(), 0);
        due("each what it likes", told("good 9 0;good 0 8;").even(), 8);
        due("eight", told(times(8, "good 9 9;")).even(), 36);
        due("none", new MarriedStreets().even(), 0);
        due("the first is the other one's", told("good 0 8;good 9 0;").even(), 8);
        due("three", told("good 5 1;good 1 5;good 3 3;").even(), 5);
    }

    private static void matesPromise() {
        MarriedStreets x = told(SQUARE + "never 0 1;");
        due("all", x.mates(0, 0), 7);
        due("as she", x.mates(0, 1), 28);
        due("as he", x.mates(0, 2), 28);
        due("to nobody", x.mates(0, 3), 1);
        work(x, "marry 2 3;");
        due("married or not", x.mates(0, 0), 7);
        post(x, "1 1;3 2;");
        due("as she", x.mates(0, 0), 3);
        due("as she", x.mates(0, 1), 28);
        due("not as he", x.mates(0, 2), 0);
        due("not to nobody", x.mates(0, 3), 0);
        post(x, "2 1;4 2;5 0;8 0;");
        due("as he: 0 has 3 houses", x.mates(0, 2), 28);
        due("not as she", x.mates(0, 1), 0);
        due("none: 3 has 4 houses", x.mates(3, 0), 0);
        post(x, "3 3;4 0;");
        due("to nobody", x.mates(0, 0), 1);
        due("to nobody", x.mates(0, 3), 1);
        post(x, "7 0;");
        due("in no house of it", x.mates(0, 0), 7);
        law(x, "hers - his");
        due("as she by the law", x.mates(0, 1), 24);
        due("as he by the law", x.mates(0, 2), 4);
        refused("mates(5, 4)", NSEE, () -> x.mates(5, 4));
        refused("mates(0, 4)", IAE, () -> x.mates(0, 4));
        refused("mates(0, -1)", IAE, () -> x.mates(0, -1));
    }

    private static void lookPromise() {
        MarriedStreets x = told(sideBySide(3, 2, 1));
        due("2 tells them apart", x.look(0, 0), 2);
        due("two are left", x.look(0, 1), 2);
        post(x, "2 1;");
        due("of the rest 1: as he all come alike", x.look(0, 0), 1);
        due("as he to two", x.look(0, 1), 2);
        post(x, "1 1;");
        due("by 2", x.look(0, 0), 2);
        due("as she two, nobody", x.look(0, 1), 2);
        post(x, "2 2;1 1;");
        due("nobody alone: the least in no line", x.look(0, 0), 3);
        due("one is left", x.look(0, 1), 1);
        post(x, "1 2;2 2;3 3;");
        due("none is left: the least in no line", x.look(0, 0), 4);
        due("none is left", x.look(0, 1), 0);
        MarriedStreets y = told(sideBySide(1, 1, 1) + "street 0 1 20 1;");
        due("a single house", y.look(0, 0), 1);
        due("she and nobody", y.look(0, 1), 2);
        due("many houses", y.look(1, 0), 2);
        due("each by itself", y.look(1, 1), 1);
        refused("look(2, 2)", NSEE, () -> y.look(2, 2));
        refused("look(0, 2)", IAE, () -> y.look(0, 2));
        refused("look(0, -1)", IAE, () -> y.look(0, -1));
    }

    private static void rightPromise() {
        MarriedStreets x = told(sideBySide(2, 3, 1));
        due("no lines", x.right(0), 0);
        post(x, "1 1;3 3;4 0;5 3;2 2;");
        due("up to the first wrong one", x.right(0), 3);
        work(x, "marry 0 1;");
        due("as she", x.right(0), 1);
        due("as he", x.right(1), 0);
        post(x, "1 0;2 1;6 3;8 0;");
        due("as he all", x.right(1), 4);
        due("as she none", x.right(0), 0);
        refused("right(2)", NSEE, () -> x.right(2));
        refused("right(-1)", NSEE, () -> x.right(-1));
    }

    private static void lanePromise() {
        MarriedStreets x = told(sideBySide(1, 1, 1) + "lane 10 0 3 1;river 2;");
        due("three years", x.lane(), 3);
        work(x, "year;");
        due("two from now", x.lane(), 2);
        work(x, "year;year;");
        due("it is", x.lane(), 0);
        work(x, "year;");
        due("it is still", x.lane(), 0);
        due("no more than the river's", told("lane 10 0 4 1;river 2;").lane(), 2);
        due("it is at first", told("lane 10 0 0 1;river 10;").lane(), 0);
        due("never", told("lane 10 0 0 1;river 9;").lane(), NONE);
        due("sixty", told("lane 60 0 1 1;").lane(), 60);
    }

    private static void stopPromise() {
        String corners = "corner 10 0;corner 7 1;corner 1 3;corner 4 1;corner 7 1;corner 0 4;";
        MarriedStreets x = told(corners + "lane 10 0 3 1;river 2;");
        due("those it comes by", x.stop(), 1 | 2 | 4 | 16);
        work(x, "year;");
        due("from now on", x.stop(), 2 | 4 | 16);
        due("where it stays", told("corner 5 5;corner 5 60;lane 5 5 0 0;river 4;").stop(), 1);
        due("all its years", told("corner 5 5;corner 5 60;lane 5 5 0 5;river 4;").stop(), 3);
        due("only now", told("corner 5 5;corner 4 5;lane 5 5 1 0;river 5;").stop(), 1);
    }

    private static void suitorsPromise() {
        MarriedStreets x = new MarriedStreets();
        due("one offer only", x.suitors(0, 9, 9, 0), 1);
        due("one offer only", x.suitors(0, 9, 9, 1), 0);
        due("each half, cut", x.suitors(0, 9, 9, 2), 8);
        due("each the most", x.suitors(3, 10, 6, 0), 1);
        due("each the most", x.suitors(3, 10, 6, 1), 303);
        due("each the most", x.suitors(3, 10, 6, 2), 4);
        due("several", x.suitors(9, 5, 40, 0), 6);
        due("the first", x.suitors(9, 5, 40, 1), 304);
        due("together", x.suitors(9, 5, 40, 2), 36);
        due("alike and small", x.suitors(3, 2, 2, 0), 8);
        due("the first", x.suitors(3, 2, 2, 1), 0);
        due("worth nothing", x.suitors(1, 0, 0, 0), 2);
        due("to 1", x.suitors(1, 9, 9, 0), 1);
        due("to 1", x.suitors(1, 9, 9, 1), 101);
        due("to 20", x.suitors(20, 40, 40, 0), 1);
        due("to 20", x.suitors(20, 40, 40, 1), 2020);
        due("to 20", x.suitors(20, 40, 40, 2), 20);
        due("none has more by another", x.suitors(1, 2, 1, 0), 4);
        refused("suitors(21, 0, 0, 0)", IAE, () -> x.suitors(21, 0, 0, 0));
        refused("suitors(-1, 0, 0, 0)", IAE, () -> x.suitors(-1, 0, 0, 0));
        refused("suitors(0, 41, 0, 0)", IAE, () -> x.suitors(0, 41, 0, 0));
        refused("suitors(0, -1, 0, 0)", IAE, () -> x.suitors(0, -1, 0, 0));
        refused("suitors(0, 0, 41, 0)", IAE, () -> x.suitors(0, 0, 41, 0));
        refused("suitors(0, 0, -1, 0)", IAE, () -> x.suitors(0, 0, -1, 0));
        refused("suitors(0, 0, 0, 3)", IAE, () -> x.suitors(0, 0, 0, 3));
        refused("suitors(0, 0, 0, -1)", IAE, () -> x.suitors(0, 0, 0, -1));
    }

    private static void getsPromise() {
        MarriedStreets x = new MarriedStreets();
        due("more", x.gets(5, 4, 40), 35);
        due("more than it is worth", x.gets(40, 39, 0), -40);
        due("less", x.gets(4, 5, 40), 0);
        due("alike", x.gets(5, 5, 12), 3);
        due("alike, cut", x.gets(5, 5, 2), -1);
        refused("gets(41, 0, 0)", IAE, () -> x.gets(41, 0, 0));
        refused("gets(0, 41, 0)", IAE, () -> x.gets(0, 41, 0));
        refused("gets(0, 0, 41)", IAE, () -> x.gets(0, 0, 41));
        refused("gets(-1, 0, 0)", IAE, () -> x.gets(-1, 0, 0));
        refused("gets(0, -1, 0)", IAE, () -> x.gets(0, -1, 0));
        refused("gets(0, 0, -1)", IAE, () -> x.gets(0, 0, -1));
    }

    private static void aheadPromise() {
        MarriedStreets x = told(sideBySide(4, 1, 1));
        work(x, "marry 0 1;marry 2 3;again 5 [quarrel 0;];quarrel 2;");
        due("now", x.ahead(0, 0), 2);
        due("holes now", x.ahead(0, 1), 12);
        due("next year", x.ahead(1, 0), 1);
        due("the longest", x.ahead(1, 2), 1);
        due("holes stay", x.ahead(24, 1), 12);
        due("repaved", x.ahead(25, 1), 10);
        due("the longest", x.ahead(60, 2), 60);
        due("nothing stays changed", x.told(3), 0);
        due("nothing stays changed", x.told(4), 2);
        due("nothing stays changed", x.told(9), 0);
        work(x, "part 0;part 2;");
        due("without", x.ahead(60, 2), 0);
        work(x, "marry 2 3;again 20 [again 8 [year;];];");
        due("to 200 only", x.ahead(60, 2), 200);
        refused("ahead(61, 0)", IAE, () -> x.ahead(61, 0));
        refused("ahead(-1, 0)", IAE, () -> x.ahead(-1, 0));
        refused("ahead(0, 3)", IAE, () -> x.ahead(0, 3));
        refused("ahead(0, -1)", IAE, () -> x.ahead(0, -1));
    }

    private static void centuriesPromise() {
        MarriedStreets x = told(sideBySide(2, 1, 1));
        work(x, "marry 0 1;");
        due("four years of quarrels", x.centuries(1, 16, 4, 3), 4);
        due("holes", x.centuries(1, 16, 4, 2), 8);
        due("couples", x.centuries(1, 16, 4, 0), 1);
        due("the fifth parts", x.centuries(1, 16, 5, 0), 0);
        due("parted", x.centuries(1, 16, 5, 1), 1);
        due("no quarrels of those alone", x.centuries(1, 16, 100, 3), 5);
        due("none below 0", x.centuries(1, 0, 100, 3), 0);
        due("nothing stays changed", x.told(6), 0);
        due("nothing stays changed", x.told(3), 0);
        // By hand: seed 1 draws 838 (by 16: 6), then 5758 (14), then 10113 (1).
        due("6 is not below 6", x.centuries(1, 6, 1, 3), 0);
        due("6 is below 7", x.centuries(1, 7, 1, 3), 1);
        due("14 is not below 14", x.centuries(1, 6, 2, 3), 0);
        due("1 is below 6", x.centuries(1, 6, 3, 3), 1);
        MarriedStreets y = told(sideBySide(3, 1, 1));
        work(y, "marry 0 2;part 0;marry 0 2;");
        due("5758 by 3 is 1, which is alone", y.centuries(1, 7, 1, 3), 0);
        due("parted in them only", y.centuries(1, 0, 1, 1), 0);
        due("a seed of 32 bits", y.centuries(-2147483648, 16, 100, 3), model(-2147483648, 16, 100, 3, 0, 2));
        due("a seed of 32 bits", y.centuries(2147483647, 9, 100, 3), model(2147483647, 9, 100, 3, 0, 2));
        refused("q", IAE, () -> x.centuries(1, 17, 1, 0));
        refused("q", IAE, () -> x.centuries(1, -1, 1, 0));
        refused("years", IAE, () -> x.centuries(1, 0, 0, 0));
        refused("years", IAE, () -> x.centuries(1, 0, 101, 0));
        refused("what", IAE, () -> x.centuries(1, 0, 1, 4));
        refused("what", IAE, () -> x.centuries(1, 0, 1, -1));
    }

    /** The quarrels of a single couple, by another count. */
    private static int model(int seed, int q, int years, int streets, int she, int he) {
        long mask = 0xffffffffL;
        long s = seed & mask;
        int holes = 0;
        int done = 0;
        for (int year = 1; year <= years; year++) {
            s = (s * 1103515245L + 12345) & mask;
            if ((s >> 16 & 0x7fff) % 16 < q) {
                s = (s * 1103515245L + 12345) & mask;
                long street = (s >> 16 & 0x7fff) % streets;
                if (street == she || street == he) {
                    holes++;
                    done++;
                }
            }
            if (year % 25 == 0) {
                holes = 0;
            }
            if (holes >= 5) {
                return done;
            }
        }
        return done;
    }

    private static void spanPromise() {
        MarriedStreets x = told(sideBySide(4, 1, 1));
        work(x, "marry 0 1;marry 2 3;");
        due("the fewest", x.span(5, 20, 6, 20, 0, 0), spanModel(x, 5, 20, 6, 20, 0));
        due("the most", x.span(5, 20, 6, 20, 1, 0), spanModel(x, 5, 20, 6, 20, 1));
        int still = x.span(5, 20, 6, 20, 2, 0);
        due("of a mate as many", x.span(5, 20, 6, 20, 2, 1), still);
        due("some, not all", still > 0 && still < 20 ? 1 : 0, 1);
        due("no quarrels", x.span(5, 20, 0, 100, 2, 3), 20);
        due("one seed", x.span(5, 1, 0, 1, 2, 3), 1);
        due("seeds wrap", x.span(2147483647, 2, 16, 20, 1, 3),
                Math.max(x.centuries(2147483647, 16, 20, 0), x.centuries(-2147483648, 16, 20, 0)));
        for (int seed = 0; seed < 40; seed++) {
            due("the seed and the next", x.span(seed, 2, 5, 20, 1, 3), spanModel(x, seed, 2, 5, 20, 1));
            due("the seed and the next", x.span(seed, 2, 5, 20, 0, 3), spanModel(x, seed, 2, 5, 20, 0));
        }
        due("nothing stays changed", x.told(4), 2);
        int[][] wrong = {{0, 0, 1, 0, 0}, {21, 0, 1, 0, 0}, {1, -1, 1, 0, 0}, {1, 17, 1, 0, 0}, {1, 0, 0, 0, 0},
            {1, 0, 101, 0, 0}, {1, 0, 1, -1, 0}, {1, 0, 1, 3, 0}, {1, 0, 1, 0, 4}, {1, 0, 1, 1, -1}, {1, 0, 1, 2, 4}};
        for (int[] w : wrong) {
            refused("span", IAE, () -> x.span(1, w[0], w[1], w[2], w[3], w[4]));
        }
    }

    private static int spanModel(MarriedStreets x, int seed, int many, int q, int years, int what) {
        int fewest = 9;
        int most = 0;
        for (int i = 0; i < many; i++) {
            int couples = x.centuries(seed + i, q, years, 0);
            fewest = Math.min(fewest, couples);
            most = Math.max(most, couples);
        }
        return what == 0 ? fewest : most;
    }

    private static void imagePromise() {
        MarriedStreets x = told(sideBySide(2, 1, 1));
        due("one", x.image(), 1);
        due("two", x.image(), 2);
        due("three", x.image(), 3);
        due("no more", x.image(), -1);
        due("three are there", x.count(0), 3);
        due("two are left", x.restore(), 2);
        due("three again", x.image(), 3);
    }

    private static void restorePromise() {
        MarriedStreets x = told(sideBySide(4, 3, 5));
        due("none", x.restore(), -1);
        work(x, "marry 0 1;year;quarrel 1;");
        x.image();
        work(x, "part 0;plant 2 2;marry 0 0;");
        x.image();
        work(x, "marry 2 3;");
        x.undo();
        x.undo();
        x.undo();
        work(x, "year;year;part 0;");
        law(x, "1");
        post(x, "1 1;");
        feed(x, "z");
        x.law(1);
        feed(x, "z");
        due("refused steps", x.told(8), 1);
        due("one is left", x.restore(), 1);
        due("the tape stays", x.count(1), 20);
        due("the fault stays", x.fault(), 0);
        due("the law stays", x.banns(0, 1), 3);
        due("the post stays", x.told(7), 1);
        due("refused steps", x.told(8), 0);
        due("works", x.count(2), 2);
        due("parted", x.told(9), 1);
        due("trees", x.told(5), 22);
        due("year", x.told(3), 1);
        due("a work of the image is undone", x.undo(), 1);
        due("couple", x.street(0, 5), 1);
        due("holes", x.told(6), 2);
        due("none is left", x.restore(), 0);
        due("works", x.count(2), 1);
        due("couple", x.street(1, 5), 0);
        due("a work of the image is undone", x.undo(), 0);
        due("year", x.told(3), 0);
        due("none", x.restore(), -1);
        restoreWorks();
        restoreMany();
    }

    /** The WORKS of the IMAGE come back, though others were done in their stead. */
    private static void restoreWorks() {
        MarriedStreets x = told(sideBySide(4, 3, 5));
        work(x, "marry 0 1;");
        work(x, "marry 2 3;");
        x.image();
        x.undo();
        x.undo();
        work(x, "plant 0 9;");
        work(x, "plant 0 9;");
        work(x, "plant 0 9;");
        due("restore", x.restore(), 0);
        due("works", x.count(2), 2);
        due("couples", x.told(4), 2);
        due("undo", x.undo(), 1);
        due("trees", x.told(5), 20);
        due("couples", x.told(4), 1);
        due("undo", x.undo(), 0);
        due("trees", x.told(5), 20);
        due("couples", x.told(4), 0);
    }

    /** Three IMAGES with 16 WORKS each. */
    private static void restoreMany() {
        MarriedStreets x = told(sideBySide(2, 3, 5));
        for (int image = 1; image <= 3; image++) {
            for (int i = 0; i < 16; i++) {
                x.undo();
            }
            for (int i = 0; i < 16; i++) {
                work(x, "plant 0 " + image + ";");
            }
            due("image", x.image(), image);
        }
        for (int image = 3; image >= 1; image--) {
            due("restore", x.restore(), image - 1);
            for (int i = 16; i >= 1; i--) {
                due("trees", x.street(0, 3), 5 + image * i);
                due("undo", x.undo(), i - 1);
            }
            due("trees", x.street(0, 3), 5);
        }
    }

    private static void statusPromise() {
        MarriedStreets x = told(SQUARE);
        x.image();
        refused("number(0, 9)", IOOBE, () -> x.number(0, 9));
        refused("street(9, 0)", NSEE, () -> x.street(9, 0));
        refused("way(9, 0)", NSEE, () -> x.way(9, 0));
        refused("told(99)", IAE, () -> x.told(99));
        refused("city(9)", IAE, () -> x.city(9));
        refused("span", IAE, () -> x.span(0, 0, 0, 0, 0, 0));
        law(x, "fault");
        x.undo();
        x.restore();
        city(x, SQUARE);
        due("status(0)", x.status(0), 1);
        due("status(1)", x.status(1), 2);
        due("status(2)", x.status(2), 3);
        due("status(3)", x.status(3), NONE);
        due("status(-1)", x.status(-1), NONE);
    }

    private static void countPromise() {
        MarriedStreets x = told(SQUARE);
        x.image();
        x.image();
        work(x, "year;");
        work(x, "year;");
        work(x, "year;");
        x.feed(1, 2, 3, 4, 5);
        due("images", x.count(0), 2);
        due("bytes", x.count(1), 20);
        due("works", x.count(2), 3);
        due("count(3)", x.count(3), NONE);
        due("count(-1)", x.count(-1), NONE);
    }

    public static void main(String[] args) {
        Runnable[] promises = {PromiseTest::newObject, PromiseTest::feedPromise, PromiseTest::cityPromise,
            PromiseTest::lawPromise, PromiseTest::workPromise, PromiseTest::postPromise, PromiseTest::faultPromise,
            PromiseTest::undoPromise, PromiseTest::toldPromise, PromiseTest::streetPromise, PromiseTest::likesPromise,
            PromiseTest::bannsPromise, PromiseTest::numberPromise, PromiseTest::letterPromise,
            PromiseTest::lastPromise, PromiseTest::missingPromise, PromiseTest::stablePromise,
            PromiseTest::stableForPromise, PromiseTest::bestPromise, PromiseTest::bestForPromise,
            PromiseTest::temptedPromise, PromiseTest::wayPromise, PromiseTest::roundPromise,
            PromiseTest::reachPromise, PromiseTest::bridgesPromise, PromiseTest::fairPromise, PromiseTest::evenPromise,
            PromiseTest::matesPromise, PromiseTest::lookPromise, PromiseTest::rightPromise, PromiseTest::lanePromise,
            PromiseTest::stopPromise, PromiseTest::suitorsPromise, PromiseTest::getsPromise,
            PromiseTest::aheadPromise, PromiseTest::centuriesPromise, PromiseTest::spanPromise,
            PromiseTest::imagePromise, PromiseTest::restorePromise, PromiseTest::statusPromise,
            PromiseTest::countPromise};
        for (Runnable one : promises) {
            promise++;
            try {
                one.run();
            } catch (RuntimeException e) {
                failed++;
                System.out.println("promise " + promise + ": ended by " + e);
            }
        }
        System.out.println("PromiseTest: " + promise + " promises, " + passed + " answers right, " + failed + " wrong");
        if (failed != 0 || promise != 41) {
            System.exit(1);
        }
    }
}
