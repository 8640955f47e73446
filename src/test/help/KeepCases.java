/** Boundary cases of promises 8, 9 and 38 to 41: work undone, what is counted, IMAGES, refusals. */
final class KeepCases extends Trial {
    static void all() {
        undo();
        undoBringsBack();
        told();
        toldMost();
        toldRefusedSteps();
        image();
        restore();
        restoreLeaves();
        status();
        count();
    }

    // ---- promise 8

    private static void undo() {
        promise(8);
        String words = "The latest WORK that was done (of no STEPS, or with all of them REFUSED, too) is undone: how many are left; "
                + "-1: there is none.";
        test(words, "there is none: on a new object, behind all, behind city()", () -> {
            due("on a new object", new MarriedStreets().undo(), -1);
            MarriedStreets x = told(sideBySide(2, 1, 1));
            due("on a new CITY", x.undo(), -1);
            work(x, "year;");
            due("the only one", x.undo(), 0);
            due("behind all", x.undo(), -1);
            due("and again", x.undo(), -1);
            work(x, "year;");
            city(x, sideBySide(2, 1, 1));
            due("behind city()", x.undo(), -1);
        });
        test(words, "-1 changes nothing", () -> {
            Maker none = () -> {
                MarriedStreets x = told(RICH);
                work(x, "marry 0 1;year;plant 2 3;");
                x.image();
                x.undo();
                return x;
            };
            MarriedStreets x = none.make();
            due("undo()", x.undo(), -1);
            alike("undo() of none", x, none.make());
        });
        test(words, "all sixteen, down to none", () -> {
            MarriedStreets x = told(sideBySide(2, 1, 1));
            for (int i = 1; i <= 16; i++) {
                work(x, "plant 0 2;");
            }
            for (int i = 15; i >= 0; i--) {
                due("undo()", x.undo(), i);
                due("trees", x.street(0, 3), 1 + 2 * i);
            }
            due("undo()", x.undo(), -1);
        });
        test(words, "of no STEPS", () -> {
            MarriedStreets x = told(sideBySide(2, 1, 1));
            work(x, "year;");
            work(x, "");
            due("the empty one", x.undo(), 1);
            due("the year", x.told(3), 1);
            due("the other one", x.undo(), 0);
            due("the year", x.told(3), 0);
        });
        test(words, "with all of them REFUSED", () -> {
            MarriedStreets x = told(sideBySide(2, 1, 1));
            work(x, "year;");
            work(x, "part 0;marry 0 0;");
            due("the refused one", x.undo(), 1);
            due("the year", x.told(3), 1);
        });
        test(words, "a WORK with a FAULT was not done", () -> {
            MarriedStreets x = told(sideBySide(2, 1, 1));
            work(x, "year;");
            work(x, "year;x");
            due("the one without", x.undo(), 0);
            due("the year", x.told(3), 0);
        });
    }

    private static void undoBringsBack() {
        promise(8);
        test("The latest WORK that was done", "all that a WORK can change", () -> {
            Maker maker = () -> {
                MarriedStreets x = told(RICH);
                work(x, "marry 0 1;quarrel 1;year;plant 2 3;part 0;marry 2 0;year;");
                return x;
            };
            String[] works = {"year;", "plant 0 9;", "part 0;", "part 2;marry 0 1;", "quarrel 0;", "repave 0;", "marry 1 1;",
                "again 5[quarrel 2;];year;", "again 20[year;];again 4[year;];", "part 0;marry 0 2;", ""};
            for (String work : works) {
                MarriedStreets x = maker.make();
                work(x, work);
                due("undo() of " + work, x.undo(), 1);
                MarriedStreets twin = maker.make();
                work(twin, "");
                twin.undo();
                alike("undo() of " + work, x, twin);
            }
        });
        test("The latest WORK that was done", "the LAW, the POST, IMAGES, the FAULT and the tape stay", () -> {
            MarriedStreets x = told(sideBySide(2, 3, 1));
            work(x, "year;");
            x.image();
            law(x, "1");
            post(x, "1 1;");
            law(x, "1 x");
            x.feed(0, 0, 0, 0, 0);
            due("undo()", x.undo(), 0);
            due("banns", x.banns(0, 1), 3);
            due("lines", x.told(7), 1);
            due("images", x.count(0), 1);
            due("fault()", x.fault(), 2);
            due("bytes", x.count(1), 20);
            due("restore()", x.restore(), 0);
            due("the work of the IMAGE", x.count(2), 1);
        });
    }

    // ---- promise 9

    private static void told() {
        promise(9);
        test("IllegalArgumentException: another what (so below).", "-1 and 10", () -> {
            refused("told(-1)", IAE, x -> x.told(-1));
            refused("told(10)", IAE, x -> x.told(10));
            refused("told(-2147483648)", IAE, x -> x.told(LEAST));
            refused("told(2147483647)", IAE, x -> x.told(MOST));
        });
        test("0 CORNERS, 1 STREETS, 2 GOODS, 3 the YEAR, 4 couples, 5 trees in all, 6 holes in all, 7 lines of the POST",
                "each is its own", () -> {
            MarriedStreets x = told("corner 0 0;".repeat(7) + "street 0 1 1 3;".repeat(6) + "good 1 1;".repeat(5));
            post(x, "1 1;2 2;3 3;4 0;");
            work(x, "again 3[year;];marry 0 1;marry 2 3;quarrel 3;plant 5 2;");
            int[] due = {7, 6, 5, 3, 2, 20, 2, 4};
            for (int what = 0; what <= 7; what++) {
                due("told(" + what + ")", x.told(what), due[what]);
            }
        });
        test("9 how many parted by now (couples).", "by STEPS and by years, no more when undone", () -> {
            MarriedStreets x = told(sideBySide(4, 1, 1));
            due("none", x.told(9), 0);
            work(x, "marry 0 1;part 0;part 0;");
            due("by a STEP", x.told(9), 1);
            work(x, "marry 0 1;marry 2 3;again 5[quarrel 0;quarrel 2;];year;");
            due("by a year", x.told(9), 3);
            x.undo();
            due("undone", x.told(9), 1);
        });
    }

    private static void toldMost() {
        promise(9);
        test("0 CORNERS, 1 STREETS, 2 GOODS", "10, 8 and 8", () -> {
            MarriedStreets x = told("corner 1 1;".repeat(10) + "street 0 1 1 1;".repeat(8) + "good 1 1;".repeat(8));
            due("corners", x.told(0), 10);
            due("streets", x.told(1), 8);
            due("goods", x.told(2), 8);
        });
        test("4 couples, 5 trees in all, 6 holes in all", "4, 792 and 72", () -> {
            MarriedStreets x = told(sideBySide(8, 1, 20));
            work(x, "again 9[plant 0 9;plant 1 9;plant 2 9;plant 3 9;plant 4 9;plant 5 9;plant 6 9;plant 7 9;];");
            work(x, "marry 0 1;marry 2 3;marry 4 5;marry 6 7;again 9[quarrel 0;quarrel 2;quarrel 4;quarrel 6;];");
            due("couples", x.told(4), 4);
            due("trees", x.told(5), 792);
            due("holes", x.told(6), 72);
        });
        test("4 couples, 5 trees in all, 6 holes in all", "of the first and the eighth STREET", () -> {
            MarriedStreets x = told(sideBySide(8, 1, 1));
            work(x, "marry 7 1;year;year;marry 0 2;year;quarrel 7;");
            due("couples", x.told(4), 2);
            due("trees", x.told(5), 8);
            due("holes", x.told(6), 2);
            due("the eighth is she", x.street(7, 6), 1);
            due("her YEARS", x.street(7, 7), 3);
            due("YEARS of the first", x.street(0, 7), 1);
        });
        test("7 lines of the POST", "0 and 8", () -> {
            MarriedStreets x = new MarriedStreets();
            due("none", x.told(7), 0);
            post(x, "1 0;2 0;3 0;4 0;5 0;6 0;7 0;8 0;");
            due("eight", x.told(7), 8);
        });
        test("8 STEPS REFUSED by the latest WORK", "199, for the again is none", () -> {
            MarriedStreets x = told(sideBySide(1, 1, 1));
            work(x, "again 20[" + "part 0;".repeat(10) + "];part 0;");
            due("199", x.told(8), 199);
        });
    }

    private static void toldRefusedSteps() {
        promise(9);
        String words = "8 STEPS REFUSED by the latest WORK (0 ahead of any, behind city() without a FAULT, undo(), restore(); "
                + "a FAULT, -20, -1 leave it)";
        test(words, "0 ahead of any", () -> due("told(8)", told(sideBySide(2, 1, 1)).told(8), 0));
        test(words, "of the latest alone", () -> {
            MarriedStreets x = refusedTwo();
            due("told(8)", x.told(8), 2);
            work(x, "part 0;");
            due("told(8)", x.told(8), 1);
            work(x, "");
            due("told(8)", x.told(8), 0);
        });
        test(words, "0 behind city() without a FAULT", () -> {
            MarriedStreets x = refusedTwo();
            city(x, "");
            due("told(8)", x.told(8), 0);
        });
        test(words, "0 behind undo()", () -> {
            MarriedStreets x = refusedTwo();
            x.undo();
            due("told(8)", x.told(8), 0);
        });
        test(words, "0 behind undo(), though the WORK ahead had some", () -> {
            MarriedStreets x = refusedTwo();
            work(x, "year;");
            x.undo();
            due("told(8)", x.told(8), 0);
        });
        test(words, "0 behind restore()", () -> {
            MarriedStreets x = refusedTwo();
            x.image();
            due("an IMAGE leaves it", x.told(8), 2);
            x.restore();
            due("told(8)", x.told(8), 0);
        });
        test(words, "a FAULT leaves it, of any text", () -> {
            MarriedStreets x = refusedTwo();
            city(x, "x");
            law(x, "x");
            work(x, "x");
            work(x, "part 0;part");
            post(x, "x");
            due("told(8)", x.told(8), 2);
        });
        test(words, "a LAW and a POST leave it", () -> {
            MarriedStreets x = refusedTwo();
            law(x, "1");
            post(x, "1 1;");
            due("told(8)", x.told(8), 2);
        });
        test(words, "-20 leaves it", () -> {
            MarriedStreets x = told(sideBySide(2, 1, 1));
            for (int i = 1; i <= 16; i++) {
                work(x, "part 0;part 1;");
            }
            due("work", work(x, "part 0;"), -20);
            due("told(8)", x.told(8), 2);
        });
        test(words, "-1 of undo(), which comes only where it is 0", () -> {
            MarriedStreets x = told(sideBySide(2, 1, 1));
            x.image();
            work(x, "part 0;");
            x.restore();
            due("undo()", x.undo(), -1);
            due("told(8)", x.told(8), 0);
        });
        test(words, "-1 of restore() and of image() leaves it", () -> {
            MarriedStreets x = refusedTwo();
            due("restore()", x.restore(), -1);
            due("told(8)", x.told(8), 2);
            x.image();
            x.image();
            x.image();
            due("image()", x.image(), -1);
            due("told(8)", x.told(8), 2);
        });
        test(words, "a call that throws leaves it", () -> {
            MarriedStreets x = refusedTwo();
            due("work(21)", outcome(() -> x.work(21)), IAE);
            due("told(8)", x.told(8), 2);
        });
        test(words, "asking for CENTURIES and the like leaves it", () -> {
            MarriedStreets x = refusedTwo();
            x.ahead(60, 0);
            x.centuries(1, 16, 100, 0);
            x.span(1, 20, 16, 100, 0, 0);
            due("told(8)", x.told(8), 2);
        });
    }

    private static MarriedStreets refusedTwo() {
        MarriedStreets x = told(sideBySide(2, 1, 1));
        work(x, "part 0;year;part 1;");
        return x;
    }

    // ---- promises 38 and 39

    private static void image() {
        promise(38);
        test("how many there are; -1: there are 3.", "the third, and a fourth", () -> {
            MarriedStreets x = new MarriedStreets();
            due("the first", x.image(), 1);
            due("the second", x.image(), 2);
            due("the third", x.image(), 3);
            due("a fourth", x.image(), -1);
            due("a fourth again", x.image(), -1);
            due("there are three", x.count(0), 3);
        });
        test("how many there are; -1: there are 3.", "-1 changes nothing", () -> {
            Maker three = () -> {
                MarriedStreets x = told(RICH);
                work(x, "year;");
                x.image();
                work(x, "year;");
                x.image();
                work(x, "year;");
                x.image();
                work(x, "year;marry 0 1;");
                return x;
            };
            MarriedStreets x = three.make();
            due("image()", x.image(), -1);
            alike("image() of a fourth", x, three.make());
        });
        test("how many there are; -1: there are 3.", "there is room again behind restore() and city()", () -> {
            MarriedStreets x = new MarriedStreets();
            x.image();
            x.image();
            x.image();
            due("restore()", x.restore(), 2);
            due("image()", x.image(), 3);
            due("city(0)", x.city(0), 0);
            due("image()", x.image(), 1);
        });
        test("An IMAGE of all (WORKS that can be undone, too) but the TAPE, the latest FAULT, the LAW, the POST",
                "an IMAGE changes nothing by itself", () -> {
            MarriedStreets x = told(RICH);
            work(x, "year;part 0;");
            MarriedStreets twin = told(RICH);
            work(twin, "year;part 0;");
            x.image();
            due("told(8)", x.told(8), 1);
            x.restore();
            work(x, "");
            x.undo();
            work(twin, "");
            twin.undo();
            alike("image() and restore()", x, twin);
        });
    }

    private static void restore() {
        promise(39);
        String words = "All is as in the latest IMAGE, which is gone: how many are left; -1: there is none.";
        test(words, "there is none: on a new object, behind all, behind city()", () -> {
            MarriedStreets x = new MarriedStreets();
            due("on a new object", x.restore(), -1);
            x.image();
            due("the only one", x.restore(), 0);
            due("behind it", x.restore(), -1);
            x.image();
            x.city(0);
            due("behind city()", x.restore(), -1);
        });
        test(words, "-1 changes nothing", () -> {
            Maker none = () -> {
                MarriedStreets x = told(RICH);
                work(x, "marry 0 1;year;plant 2 3;part 2;");
                work(x, "year;part 2;");
                return x;
            };
            MarriedStreets x = none.make();
            due("restore()", x.restore(), -1);
            alike("restore() of none", x, none.make());
        });
        test(words, "three of them, the latest first", () -> {
            MarriedStreets x = told(sideBySide(1, 1, 1));
            for (int i = 1; i <= 3; i++) {
                work(x, "plant 0 1;");
                x.image();
            }
            work(x, "plant 0 9;");
            for (int i = 2; i >= 0; i--) {
                due("restore()", x.restore(), i);
                due("trees", x.told(5), i + 2);
                due("works", x.count(2), i + 1);
            }
            due("restore()", x.restore(), -1);
        });
        test(words, "with no WORKS and with sixteen", () -> {
            MarriedStreets x = told(sideBySide(1, 1, 1));
            x.image();
            for (int i = 1; i <= 16; i++) {
                work(x, "plant 0 1;");
            }
            x.image();
            for (int i = 1; i <= 16; i++) {
                x.undo();
            }
            work(x, "plant 0 9;plant 0 9;");
            due("restore()", x.restore(), 1);
            due("works", x.count(2), 16);
            due("a seventeenth", work(x, ""), -20);
            for (int i = 15; i >= 0; i--) {
                due("undo()", x.undo(), i);
                due("trees", x.told(5), 1 + i);
            }
            work(x, "plant 0 5;");
            due("restore()", x.restore(), 0);
            due("works", x.count(2), 0);
            due("undo()", x.undo(), -1);
            due("trees", x.told(5), 1);
        });
        test("WORKS that can be undone, too", "others were done in their stead", () -> {
            MarriedStreets x = told(sideBySide(4, 1, 1));
            work(x, "marry 0 1;");
            work(x, "marry 2 3;");
            x.image();
            x.undo();
            x.undo();
            work(x, "plant 0 9;");
            work(x, "plant 0 9;");
            work(x, "plant 0 9;");
            due("restore()", x.restore(), 0);
            due("couples", x.told(4), 2);
            due("undo()", x.undo(), 1);
            due("couples", x.told(4), 1);
            due("trees", x.told(5), 4);
            due("undo()", x.undo(), 0);
            due("couples", x.told(4), 0);
            due("trees", x.told(5), 4);
        });
        test("WORKS that can be undone, too", "sixteen in each of three IMAGES", () -> {
            MarriedStreets x = told(sideBySide(2, 1, 1));
            for (int image = 1; image <= 3; image++) {
                for (int i = 1; i <= 16; i++) {
                    x.undo();
                }
                for (int i = 1; i <= 16; i++) {
                    work(x, "plant 0 " + image + ";marry 0 1;part 0;");
                }
                due("image()", x.image(), image);
            }
            for (int image = 3; image >= 1; image--) {
                due("restore()", x.restore(), image - 1);
                due("works", x.count(2), 16);
                due("undo()", x.undo(), 15);
                due("parted", x.told(9), 15);
                due("trees", x.told(5), 2 + 15 * image);
                for (int i = 14; i >= 1; i--) {
                    x.undo();
                }
                due("parted", x.told(9), 1);
                due("trees", x.told(5), 2 + image);
            }
        });
        test(words, "all that a WORK can change", () -> {
            String[] works = {"year;", "plant 0 9;", "part 0;", "part 2;marry 0 1;", "quarrel 0;", "repave 0;",
                "again 5[quarrel 2;];year;", "part 0;marry 0 2;"};
            for (String work : works) {
                MarriedStreets x = told(RICH);
                MarriedStreets twin = told(RICH);
                work(x, "marry 0 1;quarrel 1;year;plant 2 3;part 0;marry 2 0;year;");
                work(twin, "marry 0 1;quarrel 1;year;plant 2 3;part 0;marry 2 0;year;");
                x.image();
                work(x, work);
                due("restore() behind " + work, x.restore(), 0);
                alike("restore() behind " + work, x, twin);
            }
        });
    }

    private static void restoreLeaves() {
        promise(39);
        String words = "An IMAGE of all (WORKS that can be undone, too) but the TAPE, the latest FAULT, the LAW, the POST";
        test(words, "the TAPE stays as it is", () -> {
            MarriedStreets x = told(sideBySide(1, 1, 1));
            feed(x, "corner 9 9;");
            x.image();
            x.law(0);
            feed(x, "river 5;" + " ".repeat(20));
            x.restore();
            due("bytes", x.count(1), 40);
            due("city(8)", x.city(8), 0);
            due("lane()", x.lane(), 25);
        });
        test(words, "the latest FAULT stays", () -> {
            MarriedStreets x = told(sideBySide(1, 1, 1));
            law(x, "1 x");
            x.image();
            law(x, "hers x");
            x.restore();
            due("fault()", x.fault(), 5);
            x.image();
            law(x, "1");
            x.restore();
            due("fault()", x.fault(), NONE);
        });
        test(words, "the LAW stays", () -> {
            MarriedStreets x = told(sideBySide(2, 1, 1));
            x.image();
            law(x, "1");
            x.restore();
            due("banns", x.banns(0, 1), 3);
            x.image();
            law(x, "0");
            x.restore();
            due("banns", x.banns(0, 1), 0);
        });
        test(words, "the POST stays", () -> {
            MarriedStreets x = told(sideBySide(2, 1, 1));
            x.image();
            post(x, "1 1;2 0;");
            x.restore();
            due("lines", x.told(7), 2);
            x.image();
            post(x, "");
            x.restore();
            due("lines", x.told(7), 0);
        });
    }

    // ---- promises 40 and 41

    private static void status() {
        promise(40);
        test("How many calls were refused: 0 IndexOutOfBoundsException, 1 NoSuchElementException, 2 IllegalArgumentException",
                "none, and each by one", () -> {
            MarriedStreets x = told(sideBySide(1, 1, 1));
            int[] due = {0, 0, 0};
            Call[] calls = {y -> y.number(0, 2), y -> y.street(1, 0), y -> y.told(10)};
            String[] thrown = {IOOBE, NSEE, IAE};
            for (int kind : new int[] {0, 1, 2, 2, 2, 1, 0, 0, 0, 0, 1}) {
                due(thrown[kind], outcome(() -> calls[kind].on(x)), thrown[kind]);
                due[kind]++;
                for (int what = 0; what <= 2; what++) {
                    due("status(" + what + ")", x.status(what), due[what]);
                }
            }
        });
        test("NONE for others.", "-1 and 3, and it is no refusal", () -> {
            MarriedStreets x = new MarriedStreets();
            taken(x, "status(-1)", NONE, y -> y.status(-1));
            taken(x, "status(3)", NONE, y -> y.status(3));
            taken(x, "status(-2147483648)", NONE, y -> y.status(LEAST));
            taken(x, "status(2147483647)", NONE, y -> y.status(MOST));
        });
        test("How many calls were refused", "neither a FAULT, nor NONE, -1 or -20 is a refusal", () -> {
            MarriedStreets x = told(sideBySide(2, 1, 1));
            city(x, "x");
            law(x, "1000");
            work(x, "part 9;");
            post(x, "1 1;1 1;");
            x.undo();
            x.restore();
            for (int i = 1; i <= 17; i++) {
                work(x, "marry 0 0;");
            }
            for (int i = 1; i <= 31; i++) {
                x.feed(0, 0, 0, 0, 0);
            }
            x.image();
            x.image();
            x.image();
            x.image();
            x.letter(0, 99);
            for (int what = 0; what <= 2; what++) {
                due("status(" + what + ")", x.status(what), 0);
            }
        });
        test("(No IMAGE keeps it.)", "it stays behind restore(), undo() and city()", () -> {
            MarriedStreets x = told(sideBySide(1, 1, 1));
            work(x, "year;");
            x.image();
            due("number(0, 2)", outcome(() -> x.number(0, 2)), IOOBE);
            due("street(1, 0)", outcome(() -> x.street(1, 0)), NSEE);
            due("told(10)", outcome(() -> x.told(10)), IAE);
            x.restore();
            x.undo();
            x.city(0);
            for (int what = 0; what <= 2; what++) {
                due("status(" + what + ")", x.status(what), 1);
            }
        });
    }

    private static void count() {
        promise(41);
        test("0 IMAGES, 1 bytes of the TAPE, 2 WORKS that can be undone", "none, and as many as there can be", () -> {
            MarriedStreets x = told(sideBySide(1, 1, 1));
            for (int what = 0; what <= 2; what++) {
                due("count(" + what + ")", x.count(what), 0);
            }
            for (int i = 1; i <= 16; i++) {
                work(x, "");
            }
            x.image();
            x.image();
            x.image();
            for (int i = 1; i <= 30; i++) {
                x.feed(0, 0, 0, 0, 0);
            }
            due("IMAGES", x.count(0), 3);
            due("bytes", x.count(1), 600);
            due("WORKS", x.count(2), 16);
        });
        test("NONE for others.", "-1 and 3, and it is no refusal", () -> {
            MarriedStreets x = new MarriedStreets();
            taken(x, "count(-1)", NONE, y -> y.count(-1));
            taken(x, "count(3)", NONE, y -> y.count(3));
            taken(x, "count(-2147483648)", NONE, y -> y.count(LEAST));
            taken(x, "count(2147483647)", NONE, y -> y.count(MOST));
        });
    }
}
