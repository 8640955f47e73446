/** Boundary cases of promise 5: how WORK is told and what its STEPS do. */
final class WorkCases extends Trial {
    /** One WORK of 171 years. */
    private static final String YEARS_171 = "again 19[again 9[year;];];";

    static void all() {
        call();
        sixteen();
        text();
        numbers();
        agains();
        faults();
        twoHundred();
        marry();
        marryRefused();
        part();
        plant();
        quarrel();
        repave();
        year();
        yearsOfCouples();
        yearsThatRepave();
        yearsThatPart();
    }

    private static void workIs(String text, int done, int refused) {
        MarriedStreets x = told(sideBySide(3, 1, 1));
        due("work(" + text + ")", work(x, text), done);
        due("fault() of " + text, x.fault(), NONE);
        due("told(8) behind " + text, x.told(8), refused);
        due("count(2) behind " + text, x.count(2), 1);
        due("count(1) behind " + text, x.count(1), 0);
    }

    private static void workFault(String text, int kind, int place) {
        MarriedStreets x = told(sideBySide(3, 1, 1));
        due("work(" + text + ")", work(x, text), kind - 10);
        due("fault() of " + text, x.fault(), place);
        due("told(3) behind " + text, x.told(3), 0);
        due("told(5) behind " + text, x.told(5), 3);
        due("count(1) behind " + text, x.count(1), 0);
        due("count(2) behind " + text, x.count(2), 0);
    }

    /** An object with a CITY, a LAW ("" for none) and a WORK done. */
    private static MarriedStreets lived(String city, String law, String ahead) {
        MarriedStreets x = told(city);
        if (!law.isEmpty()) {
            law(x, law);
        }
        work(x, ahead);
        return x;
    }

    /** The STEP is REFUSED: it counts as such, and all is as behind another one that is REFUSED always. */
    private static void stepRefused(String city, String law, String ahead, String step) {
        MarriedStreets x = lived(city, law, ahead);
        MarriedStreets twin = lived(city, law, ahead);
        due(step + " behind " + ahead, work(x, step), 0);
        due("told(8) behind " + ahead + step, x.told(8), 1);
        work(twin, "marry 0 0;");
        alike(ahead + step, x, twin);
    }

    /** The STEP is done. */
    private static MarriedStreets stepDone(String city, String law, String ahead, String step) {
        MarriedStreets x = lived(city, law, ahead);
        due(step + " behind " + ahead, work(x, step), 1);
        due("told(8) behind " + ahead + step, x.told(8), 0);
        return x;
    }

    /** Trees, couple, holes of a street. */
    private static void streetIs(MarriedStreets x, String when, int street, int trees, int mate, int holes) {
        due("trees of " + street + " " + when, x.street(street, 3), trees);
        due("mate of " + street + " " + when, x.street(street, 5), mate);
        due("holes of " + street + " " + when, x.street(street, 8), holes);
    }

    // ---- how it is told

    private static void call() {
        promise(5);
        test("Likewise WORK (n to 150), which is done: how many STEPS were done", "150 bytes, not 151; not below 0", () -> {
            Maker full = () -> {
                MarriedStreets x = richWithoutTape();
                feed(x, "river 9;lane 50 1 2 3;" + " ".repeat(138));
                return x;
            };
            refused(full, "work(151)", IAE, x -> x.work(151));
            refused(full, "work(-1)", IAE, x -> x.work(-1));
            refused(full, "work(-2147483648)", IAE, x -> x.work(LEAST));
            refused(full, "work(2147483647)", IAE, x -> x.work(MOST));
            refused("work(41)", IAE, x -> x.work(41));
            refused(Trial::richWithoutTape, "work(1)", IAE, x -> x.work(1));
            MarriedStreets x = told(sideBySide(1, 1, 1));
            feed(x, " ".repeat(145) + "year;");
            taken(x, "work(150)", 1, y -> y.work(150));
            feed(x, "year;" + " ".repeat(145));
            taken(x, "work(150)", 1, y -> y.work(150));
            due("the year", x.told(3), 2);
        });
        test("Likewise WORK (n to 150), which is done: how many STEPS were done", "the first n bytes, the tape is empty",
                () -> {
            MarriedStreets x = told(sideBySide(1, 1, 1));
            feed(x, "year;year;year;x");
            due("work(10)", x.work(10), 2);
            due("count(1)", x.count(1), 0);
            due("the year", x.told(3), 2);
        });
        test("(agains not counted, nor REFUSED ones); or the FAULT less 10 (none is)", "none, all and some of them", () -> {
            workIs("", 0, 0);
            workIs("   ", 0, 0);
            workIs("year;year;", 2, 0);
            workIs("part 0;part 1;", 0, 2);
            workIs("year;part 0;plant 2 1;", 2, 1);
            workIs("again 3[year;part 0;];", 3, 3);
            workIs("again 0[year;];", 0, 0);
        });
        test("or the FAULT less 10 (none is)", "the FAULT at the very end", () -> {
            workFault("year;plant 0 9;marry 0 1;year", 1, 29);
            workFault("year;plant 0 9;marry 0 3;", 2, 23);
            workFault("year;again 1[again 1[again 1[again 1[again 1[again 1[again 1[];];];];];];];", 3, 53);
        });
        test("or the FAULT less 10 (none is)", "all but the tape stays", () -> {
            String[] texts = {"marry 0 1;year;x", "marry 0 1;part 9;", "again 1[again 1[again 1[again 1[again 1[again 1[again"};
            int[] places = {15, 15, 48};
            for (int i = 0; i < 3; i++) {
                MarriedStreets x = richWithoutTape();
                due("work(" + texts[i] + ")", work(x, texts[i]), i - 9);
                due("fault() of " + texts[i], x.fault(), places[i]);
                due("count(1) behind " + texts[i], x.count(1), 0);
                alike(texts[i], x, richWithoutTape());
            }
        });
    }

    /** Sixteen WORKS, of which the last is REFUSED; the latest text has a FAULT. */
    private static MarriedStreets sixteenWorks() {
        MarriedStreets x = told(sideBySide(2, 1, 1));
        for (int i = 1; i <= 15; i++) {
            work(x, i == 7 ? "" : "plant 0 1;");
        }
        work(x, "part 0;");
        post(x, "1 x");
        return x;
    }

    private static void sixteen() {
        promise(5);
        String words = "-20 behind the exception, ahead of the FAULT (nothing is read, there is no FAULT, the TAPE is empty then): "
                + "16 WORKS are there that were not undone.";
        test(words, "the sixteenth is done, the seventeenth not", () -> {
            MarriedStreets x = told(sideBySide(1, 1, 1));
            for (int i = 1; i <= 16; i++) {
                due("work " + i, work(x, "plant 0 1;"), 1);
                due("count(2)", x.count(2), i);
            }
            due("work 17", work(x, "plant 0 1;"), -20);
            due("count(2)", x.count(2), 16);
            due("trees", x.told(5), 17);
        });
        test(words, "behind the exception", () -> {
            refused(TellingSixteen.WITH_TAPE, "work(161)", IAE, x -> x.work(161));
            refused(TellingSixteen.WITH_TAPE, "work(151)", IAE, x -> x.work(151));
            refused(TellingSixteen.WITH_TAPE, "work(-1)", IAE, x -> x.work(-1));
        });
        test(words, "ahead of the FAULT: all but the tape stays", () -> {
            for (String text : new String[] {"year;", "x", "", "part 9;"}) {
                MarriedStreets x = sixteenWorks();
                due("fault() ahead", x.fault(), 2);
                due("work(" + text + ")", work(x, text), -20);
                due("fault()", x.fault(), NONE);
                due("count(1)", x.count(1), 0);
                due("told(8)", x.told(8), 1);
                due("status(2)", x.status(2), 0);
                alike("-20 for " + text, x, sixteenWorks());
            }
        });
        test(words, "WORKS with a FAULT are none, nor those that were undone", () -> {
            MarriedStreets x = told(sideBySide(1, 1, 1));
            for (int i = 1; i <= 15; i++) {
                work(x, "plant 0 1;");
                work(x, "x");
            }
            due("the sixteenth", work(x, "year;"), 1);
            due("undo()", x.undo(), 15);
            due("a sixteenth again", work(x, "year;"), 1);
            due("no seventeenth", work(x, "year;"), -20);
        });
    }

    /** Sixteen WORKS, and a tape that is longer than a WORK may be. */
    private static final class TellingSixteen {
        static final Maker WITH_TAPE = () -> {
            MarriedStreets x = sixteenWorks();
            feed(x, "river 9;lane 50 1 2 3;" + " ".repeat(138));
            return x;
        };
    }

    private static void text() {
        promise(5);
        test("WORK is a text of up to 150 bytes: { STEP \";\" }.", "none, one and as many as stand in 150 bytes", () -> {
            workIs("", 0, 0);
            workIs("year;", 1, 0);
            workIs("year;".repeat(30), 30, 0);
            workIs("part0;".repeat(25), 0, 25);
            workIs("again1[];".repeat(16) + "year; ", 1, 0);
            workFault("year;".repeat(29) + "years", 1, 145);
        });
        test("STEP: \"marry\" S R, \"part\" S, \"plant\" S N (1 to 9), \"quarrel\" S, \"repave\" S, \"year\"", "one too few",
                () -> {
            workFault("marry;", 1, 5);
            workFault("marry 0;", 1, 7);
            workFault("part;", 1, 4);
            workFault("plant 0;", 1, 7);
            workFault("plant;", 1, 5);
            workFault("quarrel;", 1, 7);
            workFault("repave;", 1, 6);
            workFault("again[];", 1, 5);
        });
        test("STEP: \"marry\" S R, \"part\" S, \"plant\" S N (1 to 9), \"quarrel\" S, \"repave\" S, \"year\"", "one too many",
                () -> {
            workFault("marry 0 1 2;", 1, 10);
            workFault("part 0 1;", 1, 7);
            workFault("plant 0 1 1;", 1, 10);
            workFault("quarrel 0 1;", 1, 10);
            workFault("repave 0 1;", 1, 9);
            workFault("year 1;", 1, 5);
            workFault("year1;", 1, 4);
        });
        test("WORDS: small letters, as many as stand there", "in WORK", () -> {
            workIs("marry0 1;part0;plant0 1;", 3, 0);
            workFault("years;", 1, 0);
            workFault("yea;", 1, 0);
            workFault("Year;", 1, 0);
            workFault("plants 0 1;", 1, 0);
            workFault("parts 0;", 1, 0);
            workFault("river 0;", 1, 0);
            workFault("quarre", 1, 0);
            workFault("1;", 1, 0);
        });
        test("blanks (32) may stand ahead of all these, and at the end", "in WORK", () -> {
            workIs("  marry  0  1  ;  again  2  [  year  ;  ]  ;  ", 3, 0);
            workFault("ye ar;", 1, 0);
            workFault("year;\t", 1, 5);
        });
    }

    private static void numbers() {
        promise(5);
        test("STEP: \"marry\" S R", "of three STREETS 0 to 2", () -> {
            workIs("marry 2 0;", 1, 0);
            workIs("marry 0 2;", 1, 0);
            workIs("marry 2 2;", 0, 1);
            workFault("marry 3 0;", 2, 6);
            workFault("marry 0 3;", 2, 8);
            workFault("marry -1 0;", 1, 6);
        });
        test("\"part\" S", "of three STREETS 0 to 2", () -> {
            workIs("marry 2 0;part 2;marry 2 0;part 0;", 4, 0);
            workFault("part 3;", 2, 5);
        });
        test("\"plant\" S N (1 to 9)", "1 and 9, not 0 and 10", () -> {
            workIs("plant 0 1;plant 2 9;", 2, 0);
            workFault("plant 0 0;", 2, 8);
            workFault("plant 0 10;", 2, 8);
            workFault("plant 3 1;", 2, 6);
        });
        test("\"quarrel\" S, \"repave\" S", "of three STREETS 0 to 2", () -> {
            workIs("marry 2 0;quarrel 2;quarrel 0;repave 2;", 4, 0);
            workIs("marry 2 0;quarrel 2;repave 0;", 3, 0);
            workFault("quarrel 3;", 2, 8);
            workFault("repave 3;", 2, 7);
        });
        test("2 a number that is none such", "no STREET is told", () -> {
            MarriedStreets x = new MarriedStreets();
            due("part 0", work(x, "part 0;"), -8);
            due("fault()", x.fault(), 5);
            due("plant 0 1", work(x, "plant 0 1;"), -8);
            due("marry 0 0", work(x, "marry 0 0;"), -8);
            due("year", work(x, "year;"), 1);
        });
        test("2 a number that is none such", "one of all eight", () -> {
            MarriedStreets x = told(sideBySide(8, 1, 1));
            due("7", work(x, "marry 7 6;quarrel 7;plant 7 1;repave 7;part 7;"), 5);
            due("8", work(x, "part 8;"), -8);
            due("4294967296", work(x, "part 4294967296;"), -8);
        });
    }

    private static void agains() {
        promise(5);
        test("or \"again\" N \"[\" { STEP \";\" } \"]\" (N 0 to 20)", "N of 0, 1 and 20, not of 21", () -> {
            workIs("again 0[year;];", 0, 0);
            workIs("again 1[year;];", 1, 0);
            workIs("again 20[year;];", 20, 0);
            workFault("again 21[year;];", 2, 6);
            workFault("again -1[year;];", 1, 6);
        });
        test("or \"again\" N \"[\" { STEP \";\" } \"]\" (N 0 to 20)", "no STEPS in it, and many", () -> {
            workIs("again 3[];", 0, 0);
            workIs("again 3[ ];year;", 1, 0);
            workIs("again 2[year;plant 0 1;part 0;];year;", 5, 2);
            workIs("again 2[again 3[year;];plant 0 1;];", 8, 0);
            workIs("again 2[again 0[year;];plant 0 1;];", 2, 0);
        });
        test("or \"again\" N \"[\" { STEP \";\" } \"]\" (N 0 to 20)", "what doesn't stand so", () -> {
            workFault("again 1 year;", 1, 8);
            workFault("again 1(year;);", 1, 7);
            workFault("again 1[year];", 1, 12);
            workFault("again 1[year;;];", 1, 13);
            workFault("again 1[;];", 1, 8);
            workFault("again 1[year;]", 1, 14);
            workFault("again 1[year;", 1, 13);
            workFault("again 1[", 1, 8);
            workFault("again 1", 1, 7);
            workFault("again 1[year;]year;", 1, 14);
            workFault("year;];", 1, 5);
            workFault("again 1[];];", 1, 10);
            workFault("[year;];", 1, 0);
        });
        test("a 7th of ( least most again that is open at one time", "six, and the seventh", () -> {
            workIs("again 1[again 1[again 1[again 1[again 1[again 1[year;];];];];];];", 1, 0);
            workIs("again 2[again 2[again 2[again 2[again 2[again 2[year;];];];];];];", 64, 0);
            workIs("again1[again1[again1[again1[again1[again1[];again1[];again1[];];];];];];", 0, 0);
            workFault("again 1[again 1[again 1[again 1[again 1[again 1[ again 1[];];];];];];];", 3, 49);
            workFault("again1[again1[again1[again1[again1[again1[];again1[again1[];];];];];];];", 3, 51);
        });
        test("of one the least", "a seventh word that is none", () -> {
            workFault("again 1[again 1[again 1[again 1[again 1[again 1[agains", 1, 48);
            workFault("again 1[again 1[again 1[again 1[again 1[again 1[again x", 3, 48);
            workFault("again 1[again 1[again 1[again 1[again 1[again 1[again 99", 3, 48);
        });
    }

    private static void faults() {
        promise(5);
        test("1 what can't stand there (at the length, if the text ends too early)", "in WORK", () -> {
            workFault("year", 1, 4);
            workFault("year  ", 1, 6);
            workFault("year;;", 1, 5);
            workFault("year:", 1, 4);
            workFault(";", 1, 0);
            workFault("marry", 1, 5);
            workFault("marry 0", 1, 7);
            workFault("marry 0 1", 1, 9);
            workFault("plant 0 1  ", 1, 11);
            workFault("year;year" + " ".repeat(141), 1, 150);
            workFault(" ".repeat(149) + "]", 1, 149);
        });
        test("FAULTS, the first from the left, at its first byte", "in WORK", () -> {
            workFault("marry 9 x;", 2, 6);
            workFault("marry x 9;", 1, 6);
            workFault("part  0009;x", 2, 6);
            workFault("again 21 x", 2, 6);
            workFault("again 1 x 9", 1, 8);
        });
    }

    // ---- what is begun

    private static void twoHundred() {
        promise(5);
        String words = "200 STEPS at most are begun by one WORK (an again, too, each time it is come to; REFUSED ones, too), "
                + "what would come behind is left out.";
        test(words, "the 200th is begun, the 201st not", () -> {
            workIs(YEARS_171 + "again 7[year;];plant 0 1;", 179, 0);
            workIs(YEARS_171 + "again 8[year;];plant 0 1;", 179, 0);
            MarriedStreets x = lived(sideBySide(1, 1, 1), "", YEARS_171 + "again 7[year;];plant 0 1;");
            due("the 200th: trees", x.told(5), 2);
            due("the year", x.told(3), 178);
            MarriedStreets y = lived(sideBySide(1, 1, 1), "", YEARS_171 + "again 8[year;];plant 0 1;");
            due("the 201st: trees", y.told(5), 1);
            due("the year", y.told(3), 179);
        });
        test(words, "an again as the 200th", () -> {
            MarriedStreets x = told(sideBySide(1, 1, 1));
            due("199 ahead", work(x, YEARS_171 + "again 7[year;];again 1[plant 0 1;];plant 0 1;"), 178);
            due("trees", x.told(5), 1);
            due("nothing is refused", x.told(8), 0);
            due("198 ahead", work(x, "again 19[again 9[repave 0;];];again 6[part 0;];again 1[plant 0 1;];plant 0 9;"), 1);
            due("trees", x.told(5), 2);
        });
        test(words, "each time it is come to", () -> {
            workIs("again 20[again 1[year;];];", 20, 0);
            workIs("again 20[again 20[again 20[];];];year;", 0, 0);
            workIs("again 20[again 0[year;];again 0[year;];again 0[];];again 20[year;];", 20, 0);
            workIs("again 20[again 0[];again 0[];again 0[];again 0[];];again 20[again 4[year;];];", 80, 0);
            workIs("again 20[again 0[];again 0[];again 0[];again 0[];again 0[];];again 20[again 4[year;];];", 78, 0);
        });
        test(words, "REFUSED ones, too", () -> {
            workIs("again 20[again 20[repave 0;];];year;", 0, 189);
            workIs("again 19[again 9[repave 0;];];again 7[part 0;];year;", 1, 178);
            workIs("again 19[again 9[repave 0;];];again 8[part 0;];year;", 0, 179);
        });
        test(words, "the next WORK begins anew", () -> {
            MarriedStreets x = told(sideBySide(1, 1, 1));
            work(x, "again 20[again 20[repave 0;];];");
            due("behind it", work(x, "plant 0 1;again 19[again 9[plant 0 9;];];"), 12);
            due("refused", x.told(8), 160);
        });
        test(words, "in the midst of six agains", () -> {
            workIs("again 2[again 2[again 2[again 2[again 2[again 20[year;];];];];];];", 179, 0);
            MarriedStreets x = told(sideBySide(1, 1, 1));
            due("nothing behind them", work(x, "again 20[again 20[again 20[again 20[again 20[again 20[year;plant 0 1;];];];];];];"),
                    190);
            due("the year", x.told(3), 95);
            due("trees", x.told(5), 96);
        });
    }

    // ---- what STEPS do

    private static void marry() {
        promise(5);
        String words = "marry: S (she) and R, both not married, not one, not never, not REFUSED by the LAW.";
        test(words, "S is she", () -> {
            MarriedStreets x = stepDone(sideBySide(3, 1, 1), "", "", "marry 2 0;");
            due("she", x.street(2, 6), 1);
            due("he", x.street(0, 6), 0);
            due("the other one", x.street(1, 6), 0);
            due("her mate", x.street(2, 5), 0);
            due("his mate", x.street(0, 5), 2);
            due("couples", x.told(4), 1);
            due("years", x.street(2, 7), 0);
        });
        test(words, "the first and the last, all of them", () -> {
            MarriedStreets x = told(sideBySide(8, 1, 1));
            due("four couples", work(x, "marry 7 0;marry 1 6;marry 5 2;marry 3 4;"), 4);
            due("couples", x.told(4), 4);
            due("mate of the last", x.street(7, 5), 0);
            due("mate of the first", x.street(0, 5), 7);
        });
        test(words, "a LAW of 0 and below", () -> {
            stepDone(sideBySide(2, 1, 1), "0", "", "marry 0 1;");
            stepDone(sideBySide(2, 1, 1), "0 - 1", "", "marry 0 1;");
            stepDone("corner 0 0;corner 1 1;street 0 1 2 1;street 0 1 1 1;", "hers - his", "", "marry 1 0;");
        });
        test(words, "by the YEAR and the trees of then", () -> {
            MarriedStreets x = lived(sideBySide(2, 1, 1), "trees - 2 - year", "plant 0 1;marry 0 1;year;marry 0 1;");
            due("refused ahead of the year", x.told(8), 1);
            due("done behind it", x.told(4), 1);
        });
    }

    private static void marryRefused() {
        promise(5);
        String words = "STEPS are done in order; one that can't be done is REFUSED, and changes nothing";
        String four = sideBySide(4, 1, 1);
        test(words, "marry: one", () -> {
            stepRefused(four, "", "", "marry 1 1;");
            stepRefused(four, "", "marry 0 1;", "marry 1 1;");
        });
        test(words, "marry: S is married, as she or as he", () -> {
            stepRefused(four, "", "marry 0 1;year;", "marry 0 2;");
            stepRefused(four, "", "marry 1 0;year;", "marry 0 2;");
        });
        test(words, "marry: R is married, as she or as he", () -> {
            stepRefused(four, "", "marry 0 1;year;", "marry 2 0;");
            stepRefused(four, "", "marry 1 0;year;", "marry 2 0;");
        });
        test(words, "marry: both are, with one another or with others", () -> {
            stepRefused(four, "", "marry 0 1;year;", "marry 0 1;");
            stepRefused(four, "", "marry 0 1;year;", "marry 1 0;");
            stepRefused(four, "", "marry 0 1;marry 2 3;", "marry 0 2;");
        });
        test(words, "marry: never, either way", () -> {
            stepRefused(four + "never 0 1;", "", "", "marry 0 1;");
            stepRefused(four + "never 0 1;", "", "", "marry 1 0;");
        });
        test(words, "marry: by the LAW, S as she", () -> {
            stepRefused(four, "1", "", "marry 0 1;");
            stepRefused("corner 0 0;corner 1 1;street 0 1 2 1;street 0 1 1 1;", "hers - his", "", "marry 0 1;");
            stepRefused(four, "year", "year;", "marry 0 1;");
        });
        test(words, "in order, those behind it are done", () -> {
            MarriedStreets x = told(four);
            due("work", work(x, "marry 0 1;marry 1 2;part 0;marry 1 2;marry 3 0;"), 4);
            due("1 and 2", x.street(1, 5), 2);
            due("3 and 0", x.street(3, 5), 0);
            due("refused", x.told(8), 1);
        });
    }

    private static void part() {
        promise(5);
        String words = "part: S and who is married to it no longer are (REFUSED, if it is not)";
        test(words, "not married, not yet or no more", () -> {
            stepRefused(sideBySide(3, 1, 1), "", "", "part 1;");
            stepRefused(sideBySide(3, 1, 1), "", "marry 0 1;", "part 2;");
            stepRefused(sideBySide(3, 1, 1), "", "marry 0 1;part 0;", "part 0;");
            stepRefused(sideBySide(3, 1, 1), "", "marry 0 1;part 0;", "part 1;");
        });
        test(words, "by her and by him", () -> {
            for (int s = 0; s <= 1; s++) {
                MarriedStreets x = stepDone(sideBySide(3, 1, 1), "", "marry 0 1;year;quarrel 0;", "part " + s + ";");
                streetIs(x, "parted", 0, 1, NONE, 1);
                streetIs(x, "parted", 1, 1, NONE, 1);
                due("couples", x.told(4), 0);
                due("parted", x.told(9), 1);
                due("she no more", x.street(0, 6), 0);
                due("no years", x.street(0, 7), 0);
                due("no years", x.street(1, 7), 0);
                due("they may marry again", work(x, "marry 1 0;"), 1);
                due("she now", x.street(1, 6), 1);
            }
        });
        test("their trees together are halved (she gets what is left over)", "0, 1, 2 and 3 trees", () -> {
            int[][] cases = {{0, 0, 0, 0}, {1, 0, 1, 0}, {0, 1, 1, 0}, {1, 1, 1, 1}, {0, 2, 1, 1}, {3, 0, 2, 1}, {1, 2, 2, 1}};
            for (int[] c : cases) {
                MarriedStreets x = told("corner 0 0;corner 1 1;street 0 1 1 " + c[0] + ";street 0 1 1 " + c[1] + ";");
                work(x, "marry 0 1;part 1;");
                due("hers of " + c[0] + " and " + c[1], x.street(0, 3), c[2]);
                due("his of " + c[0] + " and " + c[1], x.street(1, 3), c[3]);
            }
        });
        test("their trees together are halved (she gets what is left over)", "she is the later one", () -> {
            MarriedStreets x = told("corner 0 0;corner 1 1;street 0 1 1 4;street 0 1 1 3;");
            work(x, "marry 1 0;part 0;");
            due("hers", x.street(1, 3), 4);
            due("his", x.street(0, 3), 3);
        });
        test("their trees together are halved (she gets what is left over)", "99 and 98, 99 and 99", () -> {
            MarriedStreets x = told(sideBySide(3, 1, 0));
            work(x, "again 11[plant 0 9;plant 1 9;plant 2 9;];marry 0 1;part 0;");
            due("99 and 99", x.street(0, 3) * 100 + x.street(1, 3), 9999);
            MarriedStreets y = told(sideBySide(2, 1, 0));
            work(y, "again 10[plant 0 9;plant 1 9;];plant 0 8;plant 1 9;marry 0 1;part 0;");
            due("197: hers", y.street(0, 3), 99);
            due("197: his", y.street(1, 3), 98);
        });
    }

    private static void plant() {
        promise(5);
        String words = "plant: N trees more (99 at most; REFUSED, if there are 99).";
        String ninety = "again 10[plant 0 9;];";
        test(words, "to 98 and to 99", () -> {
            due("98", stepDone(sideBySide(2, 1, 0), "", ninety, "plant 0 8;").street(0, 3), 98);
            due("99", stepDone(sideBySide(2, 1, 0), "", ninety, "plant 0 9;").street(0, 3), 99);
        });
        test(words, "beyond 99", () -> {
            due("1 too many", stepDone(sideBySide(2, 1, 1), "", ninety, "plant 0 9;").street(0, 3), 99);
            due("8 too many", stepDone(sideBySide(2, 1, 0), "", ninety + "plant 0 8;", "plant 0 9;").street(0, 3), 99);
            due("98 and 1", stepDone(sideBySide(2, 1, 0), "", ninety + "plant 0 8;", "plant 0 1;").street(0, 3), 99);
        });
        test(words, "at 99", () -> {
            stepRefused(sideBySide(2, 1, 0), "", ninety + "plant 0 9;", "plant 0 1;");
            stepRefused(sideBySide(2, 1, 0), "", ninety + "plant 0 9;", "plant 0 9;");
        });
        test(words, "of S alone, though it is married", () -> {
            MarriedStreets x = stepDone(sideBySide(2, 1, 0), "", "marry 0 1;", "plant 1 1;");
            due("of S", x.street(1, 3), 1);
            due("of its mate", x.street(0, 3), 0);
        });
    }

    private static void quarrel() {
        promise(5);
        String words = "quarrel: S, married: a hole more in both (9 at most; REFUSED, if both have 9).";
        String nine = "marry 0 1;again 9[quarrel 0;];";
        test(words, "not married", () -> {
            stepRefused(sideBySide(3, 1, 1), "", "", "quarrel 0;");
            stepRefused(sideBySide(3, 1, 1), "", "marry 0 1;", "quarrel 2;");
            stepRefused(sideBySide(3, 1, 1), "", "marry 0 1;quarrel 0;part 1;", "quarrel 0;");
        });
        test(words, "by her and by him: the first hole", () -> {
            for (int s = 0; s <= 1; s++) {
                MarriedStreets x = stepDone(sideBySide(3, 1, 1), "", "marry 0 1;", "quarrel " + s + ";");
                streetIs(x, "behind a quarrel", 0, 1, 1, 1);
                streetIs(x, "behind a quarrel", 1, 1, 0, 1);
                streetIs(x, "behind a quarrel", 2, 1, NONE, 0);
            }
        });
        test(words, "the ninth, and a tenth", () -> {
            MarriedStreets x = stepDone(sideBySide(2, 1, 1), "", "marry 0 1;again 8[quarrel 0;];", "quarrel 1;");
            due("nine", x.street(0, 8) * 10 + x.street(1, 8), 99);
            stepRefused(sideBySide(2, 1, 1), "", nine, "quarrel 0;");
            stepRefused(sideBySide(2, 1, 1), "", nine, "quarrel 1;");
        });
        test(words, "one has 9, its mate less", () -> {
            String[] steps = {"quarrel 0;", "quarrel 2;"};
            for (String step : steps) {
                MarriedStreets x = stepDone(sideBySide(3, 1, 1), "", nine + "part 0;marry 0 2;", step);
                due("9 stays", x.street(0, 8), 9);
                due("one more", x.street(2, 8), 1);
                MarriedStreets y = stepDone(sideBySide(3, 1, 1), "", nine + "part 0;marry 2 0;again 8[quarrel 0;];", step);
                due("9 and 9", y.street(0, 8) * 10 + y.street(2, 8), 99);
            }
        });
    }

    private static void repave() {
        promise(5);
        String words = "repave: S, and who is married to it, have no holes any more (REFUSED, if both have none).";
        test(words, "none has holes", () -> {
            stepRefused(sideBySide(3, 1, 1), "", "", "repave 0;");
            stepRefused(sideBySide(3, 1, 1), "", "marry 0 1;", "repave 0;");
            stepRefused(sideBySide(3, 1, 1), "", "marry 0 1;", "repave 1;");
            stepRefused(sideBySide(3, 1, 1), "", "marry 0 1;quarrel 0;part 0;", "repave 2;");
        });
        test(words, "alone, with a hole and with nine", () -> {
            MarriedStreets x = stepDone(sideBySide(3, 1, 1), "", "marry 0 1;quarrel 0;part 0;", "repave 0;");
            due("its own", x.street(0, 8), 0);
            due("not of whom it had", x.street(1, 8), 1);
            due("nine", stepDone(sideBySide(3, 1, 1), "", "marry 0 1;again 9[quarrel 0;];part 0;", "repave 1;").told(6), 9);
        });
        test(words, "married, only one of both has holes", () -> {
            String ahead = "marry 0 1;quarrel 0;part 0;marry 0 2;";
            due("by the one with holes", stepDone(sideBySide(3, 1, 1), "", ahead, "repave 0;").street(0, 8), 0);
            due("by the one without", stepDone(sideBySide(3, 1, 1), "", ahead, "repave 2;").street(0, 8), 0);
        });
        test(words, "married, by her and by him", () -> {
            for (int s = 0; s <= 1; s++) {
                MarriedStreets x = stepDone(sideBySide(4, 1, 1), "", "marry 0 1;again 9[quarrel 0;];marry 2 3;quarrel 2;",
                        "repave " + s + ";");
                due("no holes of both", x.street(0, 8) + x.street(1, 8), 0);
                due("but of the others", x.told(6), 2);
                due("married still", x.street(0, 5), 1);
            }
        });
    }

    private static void year() {
        promise(5);
        test("year: the YEAR is one more (REFUSED from 200 on)", "the first and the last, and beyond", () -> {
            MarriedStreets x = told(sideBySide(2, 1, 1));
            due("the first", work(x, "year;"), 1);
            due("the year", x.told(3), 1);
            work(x, YEARS_171);
            work(x, "again 20[year;];again 7[year;];");
            due("the year", x.told(3), 199);
            due("the last", work(x, "year;"), 1);
            due("the year", x.told(3), 200);
            due("beyond", work(x, "year;year;"), 0);
            due("refused", x.told(8), 2);
            due("the year", x.told(3), 200);
        });
        test("year: the YEAR is one more (REFUSED from 200 on)", "at 200 nobody parts, nobody is longer married", () -> {
            MarriedStreets x = told(sideBySide(4, 1, 1));
            work(x, YEARS_171);
            work(x, "again 20[year;];again 8[year;];");
            work(x, "marry 0 1;year;again 5[quarrel 0;];");
            due("the year", x.told(3), 200);
            due("refused", work(x, "year;"), 0);
            due("married still", x.street(0, 5), 1);
            due("one year", x.street(0, 7), 1);
            due("holes", x.told(6), 10);
            due("parted", x.told(9), 0);
        });
    }

    private static void yearsOfCouples() {
        promise(5);
        test("all couples have been married one YEAR longer", "both, of all couples, and no others", () -> {
            MarriedStreets x = told(sideBySide(7, 1, 1));
            work(x, "marry 6 0;year;marry 1 5;year;");
            int[] years = {2, 1, 0, 0, 0, 1, 2};
            for (int s = 0; s < 7; s++) {
                due("years of " + s, x.street(s, 7), years[s]);
            }
        });
        test("all couples have been married one YEAR longer", "anew behind parting", () -> {
            MarriedStreets x = told(sideBySide(2, 1, 1));
            work(x, "marry 0 1;year;year;part 0;year;marry 0 1;");
            due("0", x.street(0, 7), 0);
            work(x, "year;");
            due("1", x.street(1, 7), 1);
        });
        test("all couples have been married one YEAR longer", "200 at most", () -> {
            MarriedStreets x = told(sideBySide(2, 1, 1));
            work(x, "marry 0 1;again 18[again 9[year;];];");
            due("162", x.street(0, 7), 162);
            work(x, "again 20[year;];again 20[year;];");
            due("200", x.street(0, 7), 200);
            due("200", x.street(1, 7), 200);
        });
    }

    private static void yearsThatRepave() {
        promise(5);
        String words = "those who have been for 25, 50, .. YEARS are repaved";
        test(words, "24, 25 and 26", () -> {
            MarriedStreets x = told(sideBySide(4, 1, 1));
            work(x, "marry 0 1;marry 2 3;quarrel 0;again 20[year;];again 4[year;];");
            due("at 24", x.street(0, 8), 1);
            work(x, "quarrel 2;year;");
            due("at 25", x.told(6), 0);
            due("couples", x.told(4), 2);
            work(x, "quarrel 0;year;");
            due("at 26", x.told(6), 2);
        });
        test(words, "each 25th up to the 200th", () -> {
            MarriedStreets x = told(sideBySide(2, 1, 1));
            work(x, "marry 0 1;");
            for (int years = 25; years <= 200; years += 25) {
                work(x, "quarrel 1;again 20[year;];again 4[year;];");
                due("at " + (years - 1), x.told(6), 2);
                x.undo();
                work(x, "quarrel 1;again 20[year;];again 5[year;];");
                due("at " + years, x.told(6), 0);
                due("years", x.street(0, 7), years);
            }
        });
        test(words, "YEARS of the couple, not of the CITY", () -> {
            MarriedStreets x = told(sideBySide(2, 1, 1));
            work(x, "year;marry 0 1;quarrel 0;again 20[year;];again 4[year;];");
            due("the year", x.told(3), 25);
            due("holes at 24", x.told(6), 2);
            work(x, "year;");
            due("holes at 25", x.told(6), 0);
        });
        test(words, "not those who are alone", () -> {
            MarriedStreets x = told(sideBySide(4, 1, 1));
            work(x, "marry 0 1;again 9[quarrel 0;];part 0;again 20[year;];again 10[year;];");
            due("holes", x.told(6), 18);
            due("parted", x.told(9), 1);
        });
    }

    private static void yearsThatPart() {
        promise(5);
        String words = "behind that couples whose holes together are 10 or more part, as by part.";
        test(words, "8, 9, 10 and 11 holes", () -> {
            MarriedStreets x = told(sideBySide(8, 1, 1));
            work(x, "marry 0 1;marry 1 0;quarrel 0;part 0;marry 0 2;again 4[quarrel 0;];year;");
            due("9 holes", x.street(0, 8) + x.street(2, 8), 9);
            due("stay", x.street(0, 5), 2);
            work(x, "quarrel 0;year;");
            due("11 holes", x.street(0, 8) + x.street(2, 8), 11);
            due("part", x.street(0, 5), NONE);
            work(x, "marry 3 4;again 4[quarrel 3;];year;");
            due("8 stay", x.street(3, 5), 4);
            work(x, "quarrel 4;year;");
            due("10 part", x.street(4, 5), NONE);
        });
        test(words, "9 of hers and 1 of his, 1 of hers and 9 of his", () -> {
            String nine = "marry 0 1;again 9[quarrel 0;];part 0;";
            MarriedStreets x = stepDone(sideBySide(3, 1, 1), "", nine + "marry 0 2;quarrel 0;", "year;");
            due("9 and 1", x.street(0, 5), NONE);
            MarriedStreets y = stepDone(sideBySide(3, 1, 1), "", nine + "marry 2 0;quarrel 0;", "year;");
            due("1 and 9", y.street(0, 5), NONE);
            MarriedStreets z = stepDone(sideBySide(3, 1, 1), "", nine + "marry 2 0;", "year;");
            due("0 and 9", z.street(0, 5), 2);
        });
        test(words, "behind repaving: 18 holes at 25 years", () -> {
            MarriedStreets x = told(sideBySide(4, 1, 1));
            work(x, "marry 0 1;again 20[year;];marry 2 3;again 4[year;];again 9[quarrel 0;];again 9[quarrel 2;];year;");
            due("25 years: repaved", x.street(0, 5), 1);
            due("25 years: no holes", x.street(0, 8), 0);
            due("5 years: parted", x.street(2, 5), NONE);
            due("5 years: holes stay", x.street(2, 8), 9);
        });
        test(words, "trees, YEARS and how many, as by part", () -> {
            MarriedStreets x = told("corner 0 0;corner 1 1;street 0 1 1 0;street 0 1 1 7;street 0 1 1 2;street 0 1 1 3;");
            work(x, "marry 1 0;marry 2 3;year;again 5[quarrel 0;quarrel 2;];year;");
            due("hers", x.street(1, 3), 4);
            due("his", x.street(0, 3), 3);
            due("hers", x.street(2, 3), 3);
            due("his", x.street(3, 3), 2);
            due("years", x.street(0, 7) + x.street(1, 7) + x.street(2, 7) + x.street(3, 7), 0);
            due("couples", x.told(4), 0);
            due("parted", x.told(9), 2);
            due("holes stay", x.told(6), 20);
        });
        test(words, "all four couples in one YEAR", () -> {
            MarriedStreets x = told(sideBySide(8, 1, 1));
            work(x, "marry 7 0;marry 1 6;marry 5 2;marry 3 4;again 5[quarrel 0;quarrel 1;quarrel 2;quarrel 3;];");
            due("couples ahead", x.told(4), 4);
            due("year", work(x, "year;"), 1);
            due("couples", x.told(4), 0);
            due("parted", x.told(9), 4);
        });
    }
}
