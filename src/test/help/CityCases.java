/** Boundary cases of promises 1 to 3: a new object, the TAPE, and how a CITY is told. */
final class CityCases extends Trial {
    private static final String TWO = "corner 0 0;corner 1 1;street 0 1 1 1;street 0 1 1 1;";

    static void all() {
        face();
        newObject();
        feeding();
        cityCall();
        cityForgets();
        cityText();
        cityCorners();
        cityStreets();
        cityLikes();
        cityGoods();
        cityLaneAndRiver();
        writing();
        cityFaults();
    }

    private static void cityIs(String text, int streets) {
        MarriedStreets x = new MarriedStreets();
        due("city(" + text + ")", city(x, text), streets);
        due("fault() of " + text, x.fault(), NONE);
    }

    private static void cityFault(String text, int kind, int place) {
        MarriedStreets x = told("corner 7 7;");
        due("city(" + text + ")", city(x, text), kind - 10);
        due("fault() of " + text, x.fault(), place);
        due("count(1) behind " + text, x.count(1), 0);
        due("told(0) behind " + text, x.told(0), 1);
    }

    private static void face() {
        promise(0);
        test("public static final int NONE = -1;", "it is -1", () -> due("NONE", MarriedStreets.NONE, -1));
        test("An object is used for at most 512 calls after it has been made", "the 512th answers still", () -> {
            MarriedStreets x = new MarriedStreets();
            for (int call = 1; call <= 509; call++) {
                due("feed as call " + call, x.feed(0x20202020, 0x20202020, 0x20202020, 0x20202020, 0x20202020),
                        call <= 30 ? 20 * call : NONE);
            }
            due("count(1) as call 510", x.count(1), 600);
            due("city(600) as call 511", x.city(600), 0);
            due("lane() as call 512", x.lane(), 30);
        });
    }

    private static void newObject() {
        promise(1);
        test("A CITY without CLAUSES.", "nothing is there to be counted", () -> {
            MarriedStreets x = new MarriedStreets();
            for (int what = 0; what <= 9; what++) {
                due("told(" + what + ")", x.told(what), 0);
            }
            for (int what = 0; what <= 2; what++) {
                due("count(" + what + ")", x.count(what), 0);
                due("status(" + what + ")", x.status(what), 0);
            }
            due("fault()", x.fault(), NONE);
            due("undo()", x.undo(), -1);
            due("restore()", x.restore(), -1);
        });
        test("A CITY without CLAUSES.", "no STREET 0, no CORNER 0", () -> {
            refused(MarriedStreets::new, "street(0, 0)", NSEE, x -> x.street(0, 0));
            refused(MarriedStreets::new, "likes(0, 1)", NSEE, x -> x.likes(0, 1));
            refused(MarriedStreets::new, "banns(0, 1)", NSEE, x -> x.banns(0, 1));
            refused(MarriedStreets::new, "way(0, 0)", NSEE, x -> x.way(0, 0));
            refused(MarriedStreets::new, "reach(0)", NSEE, x -> x.reach(0));
            refused(MarriedStreets::new, "round(1)", IAE, x -> x.round(1));
            refused(MarriedStreets::new, "span(1, 1, 0, 1, 0, 0)", IAE, x -> x.span(1, 1, 0, 1, 0, 0));
        });
        test("A CITY without CLAUSES.", "what is asked of all", () -> {
            MarriedStreets x = new MarriedStreets();
            due("stable()", x.stable(), 1);
            due("best()", x.best(), 0);
            due("tempted()", x.tempted(), NONE);
            due("round(0)", x.round(0), 0);
            due("bridges(0)", x.bridges(0), 0);
            due("bridges(1)", x.bridges(1), NONE);
            due("fair(0)", x.fair(0), 1);
            due("fair(1)", x.fair(1), 0);
            due("even()", x.even(), 0);
            due("lane()", x.lane(), 30);
            due("stop()", x.stop(), 0);
            due("ahead(60, 2)", x.ahead(60, 2), 0);
            due("centuries(1, 16, 100, 3)", x.centuries(1, 16, 100, 3), 0);
        });
        test("A CITY without CLAUSES.", "as behind city(0)", () -> {
            MarriedStreets twin = new MarriedStreets();
            due("city(0)", twin.city(0), 0);
            alike("city(0)", new MarriedStreets(), twin);
        });
        test("A CITY without CLAUSES.", "a LAW, a POST, WORK and an IMAGE are taken", () -> {
            MarriedStreets x = new MarriedStreets();
            due("law", law(x, "hers"), 1);
            due("post", post(x, "1 1;"), 1);
            due("work", work(x, "year;"), 1);
            due("image()", x.image(), 1);
            due("work of a street", work(x, "part 0;"), -8);
            due("undo()", x.undo(), 0);
            due("restore()", x.restore(), 0);
            due("the year", x.told(3), 1);
        });
    }

    private static void feeding() {
        promise(2);
        test("Twenty bytes come on the TAPE", "none ahead, twenty behind", () -> {
            MarriedStreets x = new MarriedStreets();
            due("count(1)", x.count(1), 0);
            due("feed", x.feed(0, 0, 0, 0, 0), 20);
            due("count(1)", x.count(1), 20);
        });
        test("of each number the highest first", "each of the twenty places", () -> {
            for (int place = 0; place < 20; place++) {
                MarriedStreets x = new MarriedStreets();
                int[] five = new int[5];
                for (int i = 0; i < 20; i++) {
                    five[i / 4] = five[i / 4] << 8 | (i == place ? 'x' : ' ');
                }
                x.feed(five[0], five[1], five[2], five[3], five[4]);
                due("city(20) with a sign at " + place, x.city(20), -9);
                due("fault() of a sign at " + place, x.fault(), place);
            }
        });
        test("of each number the highest first", "bytes of 0 and of 128 to 255", () -> {
            for (int sign : new int[] {0, 127, 128, 160, 255}) {
                MarriedStreets x = new MarriedStreets();
                int four = sign << 24 | sign << 16 | sign << 8 | sign;
                x.feed(0x20202020, four, -1, LEAST, MOST);
                due("city(20) with bytes of " + sign, x.city(20), -9);
                due("fault() of bytes of " + sign, x.fault(), 4);
            }
        });
        test("how many there are", "20, 40, and so on to 600", () -> {
            MarriedStreets x = new MarriedStreets();
            for (int many = 20; many <= 600; many += 20) {
                due("feed", x.feed(0, 0, 0, 0, 0), many);
                due("count(1)", x.count(1), many);
            }
        });
        test("NONE, doing nothing, if there would be more than 600.", "the 31st feed", () -> {
            MarriedStreets x = new MarriedStreets();
            feed(x, "corner 1 2;" + " ".repeat(582) + "river 5");
            due("count(1)", x.count(1), 600);
            due("feed of 620", x.feed(0x3b3b3b3b, 0x3b3b3b3b, 0x3b3b3b3b, 0x3b3b3b3b, 0x3b3b3b3b), NONE);
            due("feed again", x.feed(0x3b3b3b3b, 0x3b3b3b3b, 0x3b3b3b3b, 0x3b3b3b3b, 0x3b3b3b3b), NONE);
            due("count(1)", x.count(1), 600);
            due("city(600)", x.city(600), -9);
            due("the end is missing still", x.fault(), 600);
            due("status(2)", x.status(2), 0);
        });
        test("NONE, doing nothing, if there would be more than 600.", "when the tape is empty again", () -> {
            MarriedStreets x = new MarriedStreets();
            feed(x, " ".repeat(600));
            x.law(0);
            due("count(1)", x.count(1), 0);
            due("feed", x.feed(0, 0, 0, 0, 0), 20);
        });
    }

    private static void cityCall() {
        promise(3);
        test("IllegalArgumentException: n is not 0 to the TAPE's bytes (it stays).", "below 0 and one more", () -> {
            refused("city(-1)", IAE, x -> x.city(-1));
            refused("city(-2147483648)", IAE, x -> x.city(LEAST));
            refused("city(41)", IAE, x -> x.city(41));
            refused("city(2147483647)", IAE, x -> x.city(MOST));
        });
        test("IllegalArgumentException: n is not 0 to the TAPE's bytes (it stays).", "of an empty tape", () -> {
            refused(Trial::richWithoutTape, "city(1)", IAE, x -> x.city(1));
            MarriedStreets x = richWithoutTape();
            taken(x, "city(0)", 0, y -> y.city(0));
        });
        test("IllegalArgumentException: n is not 0 to the TAPE's bytes (it stays).", "of a full tape", () -> {
            Maker full = () -> {
                MarriedStreets x = richWithoutTape();
                feed(x, "river 9;lane 50 1 2 3;" + " ".repeat(578));
                return x;
            };
            refused(full, "city(601)", IAE, x -> x.city(601));
            taken(full.make(), "city(600)", 0, x -> x.city(600));
        });
        test("The first n bytes of the TAPE (empty then) are the CITY", "what stands behind them is gone", () -> {
            MarriedStreets x = new MarriedStreets();
            feed(x, "river 5;river 9;x");
            due("city(8)", x.city(8), 0);
            due("count(1)", x.count(1), 0);
            due("lane()", x.lane(), 25);
            feed(x, "river 7;");
            due("the next text starts anew", x.city(8), 0);
            due("lane()", x.lane(), 23);
        });
        test("The first n bytes of the TAPE (empty then) are the CITY", "none of them", () -> {
            MarriedStreets x = told(RICH);
            feed(x, "river 5;");
            due("city(0)", x.city(0), 0);
            due("count(1)", x.count(1), 0);
            due("told(0)", x.told(0), 0);
            due("lane()", x.lane(), 30);
        });
        test("The first n bytes of the TAPE (empty then) are the CITY", "the byte behind them isn't looked at", () -> {
            MarriedStreets x = new MarriedStreets();
            feed(x, "river 55;");
            due("city(7)", x.city(7), -9);
            due("fault()", x.fault(), 7);
            feed(x, "river 5;");
            due("city(7)", x.city(7), -9);
            due("fault()", x.fault(), 7);
            feed(x, "river 5  ;");
            due("city(8)", x.city(8), -9);
            due("fault()", x.fault(), 8);
            feed(x, "rivers 5;");
            due("city(5)", x.city(5), -9);
            due("fault()", x.fault(), 5);
        });
        test("how many STREETS; or the FAULT less 10 (all but the TAPE stays)", "0, 1 and 8 of them", () -> {
            cityIs("", 0);
            cityIs(sideBySide(1, 1, 1), 1);
            cityIs(sideBySide(8, 1, 1), 8);
        });
        test("how many STREETS; or the FAULT less 10 (all but the TAPE stays)", "a FAULT of each kind", () -> {
            faultAlone("city", "river 1;x", 1, 8, x -> x.city(9));
            faultAlone("city", "never 0 1", 2, 6, x -> x.city(9));
            faultAlone("city", "good 1 1;".repeat(9), 3, 72, x -> x.city(81));
            faultAlone("city", "corner 1 1;corner 2 2;street 0 1 1 1;good 1 1;lane 1 1 1 1;river 1", 1, 66, x -> x.city(66));
        });
    }

    /** An object that has all that a CITY lets go of. */
    private static MarriedStreets fullLife() {
        MarriedStreets x = told(sideBySide(3, 2, 4) + "likes 0 1 9;never 0 2;good 1 1;lane 9 9 9 9;river 8;");
        law(x, "1");
        post(x, "1 1;2 2;");
        work(x, "year;plant 0 4;marry 0 0;");
        law(x, "0");
        work(x, "marry 0 1;quarrel 0;part 1;marry 1 0;part 0;part 0;");
        law(x, "1");
        x.image();
        return x;
    }

    private static void cityForgets() {
        String words = "(YEAR 0; no LAW, POST, IMAGES, nothing to undo)";
        promise(3);
        test(words, "YEAR 0, STREETS as told", () -> {
            MarriedStreets x = fullLife();
            due("the year ahead", x.told(3), 1);
            due("city", city(x, sideBySide(3, 2, 1)), 3);
            due("the year", x.told(3), 0);
            due("couples", x.told(4), 0);
            due("trees", x.told(5), 3);
            due("holes", x.told(6), 0);
            due("parted", x.told(9), 0);
        });
        test(words, "no LAW", () -> {
            MarriedStreets x = fullLife();
            due("banns ahead", x.banns(0, 1), 3);
            city(x, sideBySide(3, 2, 1));
            due("banns", x.banns(0, 1), 0);
        });
        test(words, "no POST", () -> {
            MarriedStreets x = fullLife();
            due("lines ahead", x.told(7), 2);
            city(x, sideBySide(3, 2, 1));
            due("lines", x.told(7), 0);
            due("right(0)", x.right(0), 0);
            due("mates(0, 0)", x.mates(0, 0), 5);
        });
        test(words, "no IMAGES", () -> {
            MarriedStreets x = fullLife();
            due("images ahead", x.count(0), 1);
            city(x, sideBySide(3, 2, 1));
            due("images", x.count(0), 0);
            due("restore()", x.restore(), -1);
            due("image()", x.image(), 1);
        });
        test(words, "nothing to undo", () -> {
            MarriedStreets x = fullLife();
            due("works ahead", x.count(2), 2);
            city(x, sideBySide(3, 2, 1));
            due("works", x.count(2), 0);
            due("undo()", x.undo(), -1);
        });
        test(words, "by a CITY of nothing, too", () -> {
            MarriedStreets x = fullLife();
            due("city(0)", x.city(0), 0);
            alike("city(0)", x, new MarriedStreets());
            due("status(2)", x.status(2), 0);
        });
        test("are the CITY", "nothing is left of the one that was told ahead", () -> {
            MarriedStreets x = fullLife();
            city(x, "");
            city(x, sideBySide(3, 2, 1));
            due("likes without", x.likes(0, 1), 5);
            due("never no more", x.banns(0, 2), 0);
            due("goods", x.told(2), 0);
            due("lane and river without", x.lane(), 30);
        });
        test("are the CITY", "nothing is left of eight STREETS, told twice ahead", () -> {
            MarriedStreets x = new MarriedStreets();
            city(x, sideBySide(8, 20, 20) + "never 0 1;likes 1 0 9;");
            city(x, sideBySide(8, 20, 20) + "never 0 1;likes 1 0 9;");
            for (int i = 0; i < 2; i++) {
                due("city", city(x, sideBySide(2, 1, 3)), 2);
                due("trees", x.told(5), 6);
                due("holes", x.told(6), 0);
                due("banns", x.banns(0, 1), 0);
                due("best()", x.best(), 10);
                due("street(2, 3)", outcome(() -> x.street(2, 3)), NSEE);
                due("round(4)", outcome(() -> x.round(4)), IAE);
            }
        });
        test("are the CITY", "no WAYS are left of one with more STREETS, told twice ahead", () -> {
            String corners = "corner 0 0;corner 1 0;corner 2 0;corner 3 0;";
            MarriedStreets x = new MarriedStreets();
            city(x, corners + "street 0 1 1 1;street 1 2 1 1;street 2 3 1 1;street 3 0 1 1;");
            city(x, corners + "street 0 1 1 1;street 1 2 1 1;street 2 3 1 1;street 3 0 1 1;");
            for (int i = 0; i < 2; i++) {
                due("city", city(x, corners + "street 0 1 1 1;"), 1);
                due("reach(0)", x.reach(0), 3);
                due("way(1, 2)", x.way(1, 2), NONE);
                due("bridges(0)", x.bridges(0), 1);
                due("round(1)", x.round(1), 2);
            }
        });
        test("how many STREETS; or the FAULT less 10 (all but the TAPE stays)", "of a CITY read half", () -> {
            MarriedStreets x = fullLife();
            due("city", city(x, "corner 1 1;corner 5 5;street 0 1 20 20;likes 0 1 1;"), -8);
            due("streets", x.told(1), 3);
            due("houses", x.street(0, 2), 2);
            due("likes", x.likes(0, 1), 9);
            due("city", city(x, "corner 1 1;"), 0);
            due("corners", x.told(0), 1);
        });
    }

    private static void cityText() {
        promise(3);
        test("A CITY is a text of up to 600 bytes", "the last byte is the 600th", () -> {
            MarriedStreets x = new MarriedStreets();
            due("city(600)", city(x, " ".repeat(592) + "river 5;"), 0);
            due("lane()", x.lane(), 25);
            MarriedStreets y = new MarriedStreets();
            due("city(600)", city(y, "river 5;" + " ".repeat(592)), 0);
            due("lane()", y.lane(), 25);
        });
        test("A CITY is a text of up to 600 bytes", "1 and 0 of them", () -> {
            cityIs("", 0);
            cityIs(" ", 0);
            cityFault(";", 1, 0);
            cityFault("r", 1, 0);
        });
        test("{ CLAUSE \";\" }, at most 60", "60 clauses, and the 61st", () -> {
            MarriedStreets x = new MarriedStreets();
            due("60", city(x, "river 9;".repeat(59) + "river 7; "), 0);
            due("the 60th counts", x.lane(), 23);
            cityFault("river 9;".repeat(60) + " river 7;", 3, 481);
            cityFault("river 9;".repeat(60) + "river", 3, 480);
            cityFault("river 9;".repeat(59) + "river 61;", 2, 478);
        });
        test("{ CLAUSE \";\" }, at most 60", "60 clauses of all kinds", () -> {
            String text = "corner 1 1;".repeat(10) + "street 0 1 1 1;".repeat(8) + "good 1 1;".repeat(8)
                    + "likes 0 1 1;never 2 3;lane 1 1 1 1;" + "river1;".repeat(30);
            cityIs(text + "river1;", 8);
            cityFault(text + "river1;" + "never 2 3;", 3, text.length() + 7);
        });
    }

    private static void cityCorners() {
        promise(3);
        test("\"corner\" X Y (CORNERS, numbered from 0 on, 10 at most: X, Y 0 to 60)", "ten, and the eleventh", () -> {
            MarriedStreets x = told("corner 1 1;".repeat(9) + "corner 4 4;street 0 9 1 1;street 9 8 1 1;");
            due("corners", x.told(0), 10);
            due("from the first to the last", x.way(0, 9), 6);
            due("the last", x.reach(9), 1 | 1 << 8 | 1 << 9);
            refused(() -> told("corner 1 1;".repeat(10)), "reach(10)", NSEE, y -> y.reach(10));
            cityFault("corner 1 1;".repeat(10) + "corner 1 1;", 3, 110);
            cityFault("corner 1 1;".repeat(10) + "  corner", 3, 112);
            cityFault("corner 1 1;".repeat(10) + "corners 1 1;", 1, 110);
        });
        test("X, Y 0 to 60", "X of 0 and 60, not of 61", () -> {
            cityIs("corner 0 30;", 0);
            cityIs("corner 60 30;", 0);
            cityFault("corner 61 30;", 2, 7);
            cityFault("corner -1 30;", 1, 7);
        });
        test("X, Y 0 to 60", "Y of 0 and 60, not of 61", () -> {
            cityIs("corner 30 0;", 0);
            cityIs("corner 30 60;", 0);
            cityFault("corner 30 61;", 2, 10);
            cityFault("corner 30 -1;", 1, 10);
        });
    }

    private static void cityStreets() {
        promise(3);
        String corners = "corner 0 0;corner 1 1;corner 2 2;";
        int n = corners.length();
        test("\"street\" A B H T (STREETS likewise, 8:", "eight, and the ninth", () -> {
            cityIs(sideBySide(8, 1, 1), 8);
            cityFault(sideBySide(8, 1, 1) + " street 0 1 1 1;", 3, sideBySide(8, 1, 1).length() + 1);
            cityFault(sideBySide(8, 1, 1) + "street", 3, sideBySide(8, 1, 1).length());
        });
        test("from CORNER A to B, not the same, both told ahead", "the first and the last of them", () -> {
            cityIs(corners + "street 0 2 1 1;", 1);
            cityIs(corners + "street 2 0 1 1;", 1);
            cityFault(corners + "street 3 0 1 1;", 2, n + 7);
            cityFault(corners + "street 0 3 1 1;", 2, n + 9);
            cityFault(corners + "street 3 3 1 1;", 2, n + 7);
            cityFault("street 0 1 1 1;corner 0 0;corner 1 1;", 2, 7);
            cityFault("corner 0 0;street 0 1 1 1;corner 1 1;", 2, 20);
        });
        test("from CORNER A to B, not the same, both told ahead", "the same", () -> {
            cityFault(corners + "street 0 0 1 1;", 2, n + 9);
            cityFault(corners + "street 2 02 1 1;", 2, n + 9);
        });
        test("H houses, 1 to 20", "1 and 20, not 0 and 21", () -> {
            due("1", told(corners + "street 0 1 1 9;").street(0, 2), 1);
            due("20", told(corners + "street 0 1 20 9;").street(0, 2), 20);
            cityFault(corners + "street 0 1 0 9;", 2, n + 11);
            cityFault(corners + "street 0 1 21 9;", 2, n + 11);
        });
        test("T trees, 0 to 20", "0 and 20, not 21", () -> {
            due("0", told(corners + "street 0 1 9 0;").street(0, 3), 0);
            due("20", told(corners + "street 0 1 9 20;").street(0, 3), 20);
            cityFault(corners + "street 0 1 9 21;", 2, n + 13);
            cityFault(corners + "street 0 1 9 -1;", 1, n + 13);
        });
        test("two may lie side by side", "the one way and the other", () -> {
            cityIs(corners + "street 0 1 1 1;street 0 1 1 1;", 2);
            cityIs(corners + "street 0 1 1 1;street 1 0 1 1;", 2);
            due("all eight", told(sideBySide(8, 1, 1)).street(7, 1), 1);
        });
    }

    private static void cityLikes() {
        promise(3);
        int n = TWO.length();
        test("(STREET S likes R, which is not S, both told ahead, by N, 0 to 9; 5 without; the last counts)", "N", () -> {
            due("0", told(TWO + "likes 0 1 0;").likes(0, 1), 0);
            due("9", told(TWO + "likes 0 1 9;").likes(0, 1), 9);
            due("without", told(TWO + "likes 0 1 9;").likes(1, 0), 5);
            cityFault(TWO + "likes 0 1 10;", 2, n + 10);
            cityFault(TWO + "likes 0 1;", 1, n + 9);
        });
        test("(STREET S likes R, which is not S, both told ahead", "S and R", () -> {
            due("the last of eight", told(sideBySide(8, 1, 1) + "likes 7 6 1;").likes(7, 6), 1);
            due("the first of eight", told(sideBySide(8, 1, 1) + "likes 0 7 1;").likes(0, 7), 1);
            cityFault(TWO + "likes 2 0 1;", 2, n + 6);
            cityFault(TWO + "likes 0 2 1;", 2, n + 8);
            cityFault(TWO + "likes 1 1 1;", 2, n + 8);
            cityFault(TWO + "likes 0 0 1;", 2, n + 8);
            cityFault("likes 0 1 1;" + TWO, 2, 6);
            cityFault("corner 0 0;corner 1 1;street 0 1 1 1;likes 0 1 1;street 0 1 1 1;", 2, 45);
        });
        test("5 without; the last counts", "of three", () -> {
            due("the last", told(TWO + "likes 0 1 0;likes 0 1 9;likes 0 1 3;").likes(0, 1), 3);
            due("5 told behind others", told(TWO + "likes 0 1 0;likes 0 1 5;").likes(0, 1), 5);
        });
        test("\"never\" S R (S and R, not one, never marry)", "one way holds both ways", () -> {
            MarriedStreets x = told(TWO + "never 1 0;never 1 0;never 0 1;");
            due("banns(0, 1)", x.banns(0, 1), 2);
            due("banns(1, 0)", x.banns(1, 0), 2);
            due("the last of eight", told(sideBySide(8, 1, 1) + "never 7 0;").banns(0, 7), 2);
            due("but no others", told(sideBySide(8, 1, 1) + "never 7 0;").banns(0, 6), 0);
        });
        test("\"never\" S R (S and R, not one, never marry)", "no such, and one", () -> {
            cityFault(TWO + "never 1 1;", 2, n + 8);
            cityFault(TWO + "never 2 0;", 2, n + 6);
            cityFault(TWO + "never 0 2;", 2, n + 8);
            cityFault("never 0 1;" + TWO, 2, 6);
            cityFault(TWO + "never 0 1 1;", 1, n + 10);
        });
    }

    private static void cityGoods() {
        promise(3);
        test("\"good\" V W (GOODS likewise, 8:", "eight, and the ninth", () -> {
            due("eight", told("good 1 1;".repeat(8)).told(2), 8);
            cityFault("good 1 1;".repeat(8) + "good 1 1;", 3, 72);
            cityFault("good 1 1;".repeat(8) + "good", 3, 72);
            due("the eighth counts", told("good 0 0;".repeat(7) + "good 7 0;").fair(1), 128);
        });
        test("to one it is worth V, to the other one W, 0 to 9 each", "0 and 9, not 10", () -> {
            due("0 0", told("good 0 0;").fair(0), 2);
            due("9 0", told("good 9 0;").fair(1), 1);
            due("0 9", told("good 0 9;").fair(1), 0);
            due("9 9", told("good 9 9;good 9 9;").even(), 9);
            cityFault("good 10 0;", 2, 5);
            cityFault("good 0 10;", 2, 7);
            cityFault("good 1;", 1, 6);
        });
    }

    private static void cityLaneAndRiver() {
        promise(3);
        test("a LANE ends at X Y in YEAR 0, 0 to 60 both", "0 and 60, not 61", () -> {
            due("0 0", told("corner 0 0;lane 0 0 1 1;").stop(), 1);
            due("60 60", told("corner 60 60;lane 60 60 9 9;").stop(), 1);
            cityFault("lane 61 0 1 1;", 2, 5);
            cityFault("lane 0 61 1 1;", 2, 7);
        });
        test("each YEAR its X is U less, its Y V more, 0 to 9 both", "0 and 9, not 10", () -> {
            due("0 0", told("corner 5 5;corner 5 6;corner 4 5;lane 5 5 0 0;").stop(), 1);
            due("9 9", told("corner 18 5;corner 9 14;corner 0 23;lane 18 5 9 9;").stop(), 7);
            cityFault("lane 0 0 10 0;", 2, 9);
            cityFault("lane 0 0 0 10;", 2, 11);
            cityFault("lane 0 0 0;", 1, 10);
        });
        test("30 0 1 0 without; the last counts", "without, and of three", () -> {
            due("without", told("corner 30 0;corner 29 0;corner 0 0;corner 30 1;").stop(), 7);
            due("the last", told("lane 1 1 1 1;lane 2 2 2 2;lane 60 0 1 0;").lane(), 60);
            due("as without, told behind others", told("lane 60 60 9 9;lane 30 0 1 0;").lane(), 30);
        });
        test("\"river\" X (0 to 60; 0 without; the last counts)", "0 and 60, not 61", () -> {
            due("0", told("river 0;").lane(), 30);
            due("60", told("river 60;lane 60 0 1 0;").lane(), 0);
            due("59", told("river 59;lane 60 0 1 0;").lane(), 1);
            due("without", told("lane 60 0 1 0;").lane(), 60);
            due("the last", told("river 60;river 30;river 29;").lane(), 1);
            cityFault("river 61;", 2, 6);
        });
    }

    private static void writing() {
        promise(3);
        test("Numbers: digits, as many as stand there", "zeros ahead, and too many", () -> {
            cityIs("river 000000000000000000000000000000000000060;", 0);
            cityIs("river 00;", 0);
            cityFault("river 4294967296;", 2, 6);
            cityFault("river 18446744073709551617;", 2, 6);
            cityFault("river 2147483648;", 2, 6);
            cityFault("river " + "9".repeat(500) + ";", 2, 6);
            cityFault("corner 12;", 1, 9);
            due("12 is one number", told("corner 12 3;corner 1 2;corner 1 2;lane 12 3 1 1;").stop(), 1);
        });
        test("WORDS: small letters, as many as stand there", "nothing need stand between", () -> {
            cityIs("corner1 1;corner2 2;street0 1 1 1;", 1);
            cityFault("cornerriver 1;", 1, 0);
            cityFault("riverx1;", 1, 0);
            cityFault("rivera 1;", 1, 0);
            cityFault("riverz 1;", 1, 0);
            cityFault("aiver 1;", 1, 0);
            cityFault("zever 0 1;", 1, 0);
            cityFault("rive 1;", 1, 0);
            cityFault("rive", 1, 0);
            cityFault("River 1;", 1, 0);
            cityFault("riveR 1;", 1, 0);
            cityFault("goo", 1, 0);
            cityFault("goodlane", 1, 0);
            cityFault("{iver 1;", 1, 0);
            cityFault("`iver 1;", 1, 0);
        });
        test("blanks (32) may stand ahead of all these, and at the end", "ahead of each, and at the end", () -> {
            cityIs("   corner   1   1   ;   ", 0);
            cityIs("          ", 0);
            cityFault("cor ner 1 1;", 1, 0);
            cityFault("river 1 1;", 1, 8);
            cityFault("corner 1\t1;", 1, 8);
            cityFault("\ncorner 1 1;", 1, 0);
            cityFault("corner 1" + (char) 160 + "1;", 1, 8);
            cityFault("river 1;\n", 1, 8);
            cityFault("river 1;" + (char) 0, 1, 8);
        });
    }

    private static void cityFaults() {
        promise(3);
        test("1 what can't stand there (at the length, if the text ends too early)", "at each place of a CLAUSE", () -> {
            cityFault("corner", 1, 6);
            cityFault("corner ", 1, 7);
            cityFault("corner 1", 1, 8);
            cityFault("corner 1 1", 1, 10);
            cityFault("corner 1 1   ", 1, 13);
            cityFault("corner 1 1;;", 1, 11);
            cityFault("corner;", 1, 6);
            cityFault("corner x", 1, 7);
            cityFault("corner 1 1:", 1, 10);
            cityFault("corner /1 1;", 1, 7);
            cityFault("corner :1 1;", 1, 7);
            cityFault("1", 1, 0);
            cityFault("lane 1 1 1", 1, 10);
            cityFault("good 1", 1, 6);
        });
        test("1 what can't stand there (at the length, if the text ends too early)", "behind all 600 bytes", () -> {
            cityFault("river 5" + " ".repeat(593), 1, 600);
            cityFault(" ".repeat(599) + "x", 1, 599);
        });
        test("FAULTS, the first from the left, at its first byte", "of two the one that comes first", () -> {
            cityFault("corner 61 61;", 2, 7);
            cityFault("corner 61 x", 2, 7);
            cityFault("corner x 61;", 1, 7);
            cityFault("corner 1 61x", 2, 9);
            cityFault("river 61;river x;corner;", 2, 6);
            cityFault("river  00061;", 2, 7);
            cityFault("river 1;  xyz;", 1, 10);
            cityFault("good 1 1;".repeat(8) + "good 99 99;", 3, 72);
        });
        test("2 a number that is none such (the second of two that are not to be one, an N twice)", "in a CITY", () -> {
            cityFault("corner 0 0;street 0 0 1 1;", 2, 20);
            cityFault(TWO + "likes 0 00 1;", 2, TWO.length() + 8);
            cityFault(TWO + "never 1 1;", 2, TWO.length() + 8);
            cityFault("likes 0 0 1;", 2, 6);
        });
        test("3 a CLAUSE, CORNER, STREET or GOOD (at its word)", "each by one", () -> {
            cityFault("river 1;".repeat(60) + "lane 1 1 1 1;", 3, 480);
            cityFault("corner 1 1;".repeat(10) + "river 1;corner 1 1;", 3, 118);
            cityFault(sideBySide(8, 1, 1) + "river 1;street 0 1 1 1;", 3, sideBySide(8, 1, 1).length() + 8);
            cityFault("good 1 1;".repeat(8) + "river 1;good 1 1;", 3, 80);
        });
        test("of one the least", "a 61st CLAUSE whose word is none", () -> {
            cityFault("river 1;".repeat(60) + "rivers 1;", 1, 480);
            cityFault("river 1;".repeat(60) + "1", 1, 480);
            cityFault("river 1;".repeat(60) + ";", 1, 480);
        });
    }
}
