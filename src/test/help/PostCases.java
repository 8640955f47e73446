/** Boundary cases of promises 6 and 7: how a POST is told, and where the FAULT of a text lies. */
final class PostCases extends Trial {
    static void all() {
        postCall();
        postText();
        postFaults();
        faultCall();
    }

    private static void postIs(String text, int lines) {
        MarriedStreets x = new MarriedStreets();
        due("post(" + text + ")", post(x, text), lines);
        due("fault() of " + text, x.fault(), NONE);
        due("told(7) behind " + text, x.told(7), lines);
    }

    private static void postFault(String text, int kind, int place) {
        MarriedStreets x = new MarriedStreets();
        post(x, "40 0;39 0;");
        due("post(" + text + ")", post(x, text), kind - 10);
        due("fault() of " + text, x.fault(), place);
        due("count(1) behind " + text, x.count(1), 0);
        due("told(7) behind " + text, x.told(7), 2);
    }

    private static void postCall() {
        promise(6);
        test("Likewise the POST (n to 100): how many lines.", "100 bytes, not 101; not below 0, not more than there are",
                () -> {
            bytes("post", 100, x -> x.post(-1), x -> x.post(LEAST), x -> x.post(MOST), x -> x.post(101));
            refused("post(41)", IAE, x -> x.post(41));
            refused(Trial::richWithoutTape, "post(1)", IAE, x -> x.post(1));
            MarriedStreets x = new MarriedStreets();
            feed(x, " ".repeat(96) + "1 1;");
            taken(x, "post(100)", 1, y -> y.post(100));
            feed(x, "1 1;2 2;" + " ".repeat(92));
            taken(x, "post(100)", 2, y -> y.post(100));
        });
        test("Likewise the POST (n to 100): how many lines.", "none, one and eight", () -> {
            postIs("", 0);
            postIs(" ", 0);
            postIs("1 1;", 1);
            postIs("1 0;2 0;3 0;4 0;5 0;6 0;7 0;8 0;", 8);
        });
        test("Likewise the POST (n to 100): how many lines.", "it takes the place of the one ahead, the tape is empty", () -> {
            MarriedStreets x = told(sideBySide(1, 3, 1));
            feed(x, "1 1;2 2;3 3;");
            due("post(8)", x.post(8), 2);
            due("count(1)", x.count(1), 0);
            due("right(0)", x.right(0), 2);
            due("post", post(x, "1 2;"), 1);
            due("told(7)", x.told(7), 1);
            due("right(0)", x.right(0), 0);
            due("post(0)", x.post(0), 0);
            due("told(7)", x.told(7), 0);
            due("mates(0, 3)", x.mates(0, 3), 1);
        });
        test("Likewise the POST (n to 100): how many lines.", "a FAULT of each kind", () -> {
            faultAlone("post", "1 1;1 x", 2, 4, x -> x.post(7));
            faultAlone("post", "1 1;2 x", 1, 6, x -> x.post(7));
            faultAlone("post", "1 0;2 0;3 0;4 0;5 0;6 0;7 0;8 0;9 0;", 3, 32, x -> x.post(36));
        });
    }

    private static void postText() {
        promise(6);
        test("POST is a text of up to 100 bytes: { N H \";\" }, 8 lines at most, no N twice", "eight, and the ninth", () -> {
            postIs("1 0;2 0;3 0;4 0;5 0;6 0;7 0;8 0;  ", 8);
            postFault("1 0;2 0;3 0;4 0;5 0;6 0;7 0;8 0;9 0;", 3, 32);
            postFault("1 0;2 0;3 0;4 0;5 0;6 0;7 0;8 0;  9", 3, 34);
        });
        test("8 lines at most, no N twice", "N twice, next to it and far from it", () -> {
            postFault("1 0;1 0;", 2, 4);
            postFault("1 0;01 5;", 2, 4);
            postFault("1 0;2 0;3 0;4 0;5 0;6 0;7 0;1 0;", 2, 28);
            postIs("1 5;2 5;3 5;", 3);
        });
        test("a letter to number N (1 to 40) came to house H", "N of 1 and 40, not of 0 and 41", () -> {
            postIs("1 1;40 1;", 2);
            postFault("0 1;", 2, 0);
            postFault("41 1;", 2, 0);
            postFault("-1 1;", 1, 0);
        });
        test("house H (0 to 20; 0: it came to none in that STREET)", "H of 0 and 20, not of 21", () -> {
            postIs("1 0;2 20;", 2);
            postFault("1 21;", 2, 2);
            postFault("1 -1;", 1, 2);
            MarriedStreets x = told(sideBySide(1, 20, 1));
            post(x, "20 20;");
            due("right of 20", x.right(0), 1);
            post(x, "21 0;");
            due("right of none", x.right(0), 1);
            post(x, "20 0;");
            due("not right of none", x.right(0), 0);
        });
    }

    private static void postFaults() {
        promise(6);
        test("1 what can't stand there (at the length, if the text ends too early)", "in a POST", () -> {
            postFault("1", 1, 1);
            postFault("1 ", 1, 2);
            postFault("1 1", 1, 3);
            postFault("1 1  ", 1, 5);
            postFault("1;", 1, 1);
            postFault(";", 1, 0);
            postFault("1 1;;", 1, 4);
            postFault("1 1,", 1, 3);
            postFault("a 1;", 1, 0);
            postFault("1 1;2 2" + " ".repeat(93), 1, 100);
        });
        test("2 a number that is none such (the second of two that are not to be one, an N twice)", "at its N", () -> {
            postFault("7 1;7 99;", 2, 4);
            postFault("7 1;  007 x", 2, 6);
            postFault("99999999999 1;", 2, 0);
        });
        test("a line (at its N) too many", "whatever its H", () -> {
            postFault("1 0;2 0;3 0;4 0;5 0;6 0;7 0;8 0;9 99;", 3, 32);
            postFault("1 0;2 0;3 0;4 0;5 0;6 0;7 0;8 0;9", 3, 32);
        });
        test("of one the least", "a ninth line", () -> {
            postFault("1 0;2 0;3 0;4 0;5 0;6 0;7 0;8 0;8 0;", 2, 32);
            postFault("1 0;2 0;3 0;4 0;5 0;6 0;7 0;8 0;0 0;", 2, 32);
            postFault("1 0;2 0;3 0;4 0;5 0;6 0;7 0;8 0;41 0;", 2, 32);
            postFault("1 0;2 0;3 0;4 0;5 0;6 0;7 0;8 0;;", 1, 32);
        });
    }

    private static void faultCall() {
        promise(7);
        test("The place of the FAULT of the latest text; NONE without.", "without any text", () ->
                due("fault()", new MarriedStreets().fault(), NONE));
        test("The place of the FAULT of the latest text; NONE without.", "of each kind of text, and without again", () -> {
            MarriedStreets x = told(sideBySide(2, 1, 1));
            city(x, "x");
            due("of a CITY", x.fault(), 0);
            law(x, "1");
            due("a LAW without", x.fault(), NONE);
            law(x, "1+");
            due("of a LAW", x.fault(), 2);
            post(x, "1 1;");
            due("a POST without", x.fault(), NONE);
            post(x, "1 1");
            due("of a POST", x.fault(), 3);
            work(x, "year;");
            due("WORK without", x.fault(), NONE);
            work(x, "year");
            due("of WORK", x.fault(), 4);
            city(x, "");
            due("a CITY without", x.fault(), NONE);
        });
        test("The place of the FAULT of the latest text; NONE without.", "the least and the greatest place", () -> {
            MarriedStreets x = new MarriedStreets();
            city(x, "x");
            due("0", x.fault(), 0);
            city(x, "river 1" + " ".repeat(593));
            due("600", x.fault(), 600);
        });
        test("The place of the FAULT of the latest text; NONE without.", "calls that read no text leave it", () -> {
            MarriedStreets x = told(sideBySide(2, 1, 1));
            work(x, "year;");
            post(x, "1 1");
            due("ahead", x.fault(), 3);
            x.feed(0, 0, 0, 0, 0);
            x.image();
            x.undo();
            x.restore();
            x.status(0);
            due("behind others", x.fault(), 3);
            due("city(21)", outcome(() -> x.city(21)), IAE);
            due("law(151)", outcome(() -> x.law(151)), IAE);
            due("work(-1)", outcome(() -> x.work(-1)), IAE);
            due("post(101)", outcome(() -> x.post(101)), IAE);
            due("behind texts that weren't taken", x.fault(), 3);
        });
    }
}
