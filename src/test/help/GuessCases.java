/** Boundary cases of promises 26 to 30, 33 and 34: GOODS, MATES by the POST, SUITORS. */
final class GuessCases extends Trial {
    private static final String NO_SUCH = "NoSuchElementException: no such STREET, CORNER (so below, ahead of others).";
    private static final String OTHER = "IllegalArgumentException: another what (so below).";

    static void all() {
        fair();
        even();
        mates();
        matesByPost();
        matesByBanns();
        look();
        lookLeft();
        right();
        suitors();
        suitorsRests();
        gets();
    }

    // ---- promises 26 and 27

    private static void fairIs(String goods, int many, int first) {
        MarriedStreets x = told(goods);
        due("fair(0) of " + goods, x.fair(0), many);
        due("fair(1) of " + goods, x.fair(1), first);
    }

    private static void fair() {
        promise(26);
        String words = "SHARES: GOODS given to one or the other one each; FAIR: neither would rather have what the other one has";
        test(words, "no GOODS, one and eight", () -> {
            fairIs("", 1, 0);
            fairIs("good 0 0;", 2, 0);
            fairIs("good 1 1;", 0, NONE);
            fairIs("good 1 0;", 1, 1);
            fairIs("good 0 1;", 1, 0);
            fairIs("good 9 9;".repeat(8), 70, 15);
            fairIs("good 0 0;".repeat(8), 256, 0);
        });
        test("SHARES that are FAIR: 0 how many, 1 the first (bits of what the one has; NONE).", "as much, less by 1", () -> {
            fairIs("good 4 4;good 4 4;", 2, 1);
            fairIs("good 4 4;good 3 3;", 0, NONE);
            fairIs("good 4 3;good 3 4;", 1, 1);
            fairIs("good 3 4;good 4 3;", 1, 2);
            fairIs("good 4 4;good 3 4;", 1, 1);
        });
        test("of FAIR ones the first is the one of the least bits of GOODS the one has", "the least and the greatest", () -> {
            fairIs("good 0 1;".repeat(8), 1 + 8 + 28 + 56 + 70, 0);
            fairIs("good 1 0;".repeat(8), 70 + 56 + 28 + 8 + 1, 15);
            fairIs("good 0 9;".repeat(7) + "good 9 0;", 1 + 7 + 21 + 35, 128);
        });
        test(OTHER, "-1 and 2", () -> {
            refused("fair(-1)", IAE, x -> x.fair(-1));
            refused("fair(2)", IAE, x -> x.fair(2));
            refused("fair(2147483647)", IAE, x -> x.fair(MOST));
            refused("fair(-2147483648)", IAE, x -> x.fair(LEAST));
        });
    }

    private static void even() {
        promise(27);
        test("EVEN: the greatest that the lesser one's worth can be.", "0, one GOOD, and eight", () -> {
            due("none", new MarriedStreets().even(), 0);
            due("one", told("good 9 9;").even(), 0);
            due("two", told("good 9 0;good 0 9;").even(), 9);
            due("two, as told", told("good 0 9;good 9 0;").even(), 9);
            due("eight", told("good 9 9;".repeat(8)).even(), 36);
            due("eight, four each alone likes", told("good 9 0;".repeat(4) + "good 0 9;".repeat(4)).even(), 36);
            due("the one has none", told("good 0 9;".repeat(8)).even(), 0);
            due("the other one has none", told("good 9 0;".repeat(8)).even(), 0);
        });
        test("EVEN: the greatest that the lesser one's worth can be.", "the lesser one is the one, or the other one", () -> {
            due("the one", told("good 3 9;good 9 9;good 0 9;").even(), 9);
            due("the other one", told("good 9 3;good 9 9;good 9 0;").even(), 9);
            due("neither FAIR", told("good 4 4;good 3 3;").even(), 3);
        });
    }

    // ---- promises 28 to 30

    /** How many MATES, as she, as he, and whether to nobody. */
    private static void matesAre(MarriedStreets x, int street, int hers, int his, int alone) {
        due("mates(" + street + ", 1)", x.mates(street, 1), hers);
        due("mates(" + street + ", 2)", x.mates(street, 2), his);
        due("mates(" + street + ", 3)", x.mates(street, 3), alone);
        due("mates(" + street + ", 0)", x.mates(street, 0), Integer.bitCount(hers) + Integer.bitCount(his) + alone);
    }

    private static MarriedStreets posted(int streets, int houses, String post) {
        MarriedStreets x = told(sideBySide(streets, houses, 1));
        due("lines of " + post, post(x, post), post.isEmpty() ? 0 : post.split(";").length);
        return x;
    }

    private static void mates() {
        promise(28);
        test("MATES: 0 how many (nobody counts, too)", "of one STREET and of eight, no lines", () -> {
            matesAre(told(sideBySide(1, 1, 1)), 0, 0, 0, 1);
            matesAre(told(sideBySide(8, 1, 1)), 0, 254, 254, 1);
            matesAre(told(sideBySide(8, 1, 1)), 7, 127, 127, 1);
        });
        test("1 those to whom it could be married as she (bits), 2 as he (bits), 3 1 to nobody, 0 not.", "none at all", () ->
                matesAre(posted(8, 1, "1 20;"), 3, 0, 0, 0));
        test("married to whom, as she or as he (if those banns could be), or to nobody", "married or not", () -> {
            MarriedStreets x = told(sideBySide(3, 1, 1));
            work(x, "marry 0 1;");
            matesAre(x, 0, 6, 6, 1);
            matesAre(x, 2, 3, 3, 1);
        });
        test(NO_SUCH, "-1 and one more than the last, ahead of another what", () -> {
            refused("mates(-1, 0)", NSEE, x -> x.mates(-1, 0));
            refused("mates(3, 0)", NSEE, x -> x.mates(3, 0));
            refused("mates(3, 4)", NSEE, x -> x.mates(3, 4));
            refused("mates(-1, -1)", NSEE, x -> x.mates(-1, -1));
            refused("mates(2147483647, 0)", NSEE, x -> x.mates(MOST, 0));
        });
        test(OTHER, "-1 and 4", () -> {
            refused("mates(0, -1)", IAE, x -> x.mates(0, -1));
            refused("mates(0, 4)", IAE, x -> x.mates(0, 4));
            refused("mates(2, 2147483647)", IAE, x -> x.mates(2, MOST));
            refused("mates(2, -2147483648)", IAE, x -> x.mates(2, LEAST));
        });
    }

    private static void matesByPost() {
        promise(28);
        String words = "all lines would be right: a letter to N comes to that house of it that has NUMBER N by that (0: none has it).";
        test(words, "NUMBER 1: hers or nobody's", () -> {
            matesAre(posted(2, 1, "1 1;"), 0, 2, 0, 1);
            matesAre(posted(2, 20, "1 1;"), 0, 2, 0, 1);
            matesAre(posted(2, 1, "1 0;"), 0, 0, 2, 0);
        });
        test(words, "NUMBER 2: his, or nobody's if there are two houses", () -> {
            matesAre(posted(2, 1, "2 1;"), 0, 0, 2, 0);
            matesAre(posted(2, 1, "2 0;"), 0, 2, 0, 1);
            matesAre(posted(2, 2, "2 2;"), 0, 0, 0, 1);
            matesAre(posted(2, 2, "2 0;"), 0, 2, 0, 0);
        });
        test(words, "the last NUMBER of nobody, and the next", () -> {
            matesAre(posted(2, 20, "20 20;"), 0, 0, 0, 1);
            matesAre(posted(2, 20, "21 0;"), 0, 0, 2, 1);
            matesAre(posted(2, 19, "20 0;"), 0, 2, 0, 1);
        });
        test(words, "the last NUMBER of hers, and the next", () -> {
            matesAre(posted(2, 20, "39 20;"), 0, 2, 0, 0);
            matesAre(posted(2, 19, "39 0;"), 0, 2, 2, 1);
            matesAre(posted(2, 19, "37 19;"), 0, 2, 0, 0);
        });
        test(words, "the last NUMBER of his, and the next", () -> {
            matesAre(posted(2, 20, "40 20;"), 0, 0, 2, 0);
            matesAre(posted(2, 19, "40 0;"), 0, 2, 2, 1);
            matesAre(posted(2, 19, "38 19;"), 0, 0, 2, 0);
        });
        test(words, "all eight lines right, and only the eighth wrong", () -> {
            matesAre(posted(2, 4, "1 1;2 0;3 2;4 0;5 3;6 0;7 4;8 0;"), 0, 2, 0, 0);
            matesAre(posted(2, 4, "1 1;2 0;3 2;4 0;5 3;6 0;7 4;8 1;"), 0, 0, 0, 0);
            matesAre(posted(2, 4, "1 1;2 2;3 3;4 4;5 0;6 0;7 0;8 0;"), 0, 0, 0, 1);
            matesAre(posted(2, 4, "1 0;2 1;3 0;4 2;5 0;6 3;7 0;8 4;"), 0, 0, 2, 0);
        });
        test(words, "by the houses of the STREET itself", () -> {
            MarriedStreets x = told("corner 0 0;corner 1 1;street 0 1 1 1;street 0 1 2 1;");
            post(x, "3 2;");
            matesAre(x, 0, 0, 0, 0);
            matesAre(x, 1, 1, 0, 0);
        });
    }

    private static void matesByBanns() {
        promise(28);
        String words = "married to whom, as she or as he (if those banns could be), or to nobody";
        test(words, "never", () -> {
            matesAre(told(sideBySide(3, 1, 1) + "never 0 2;"), 0, 2, 2, 1);
            matesAre(told(sideBySide(3, 1, 1) + "never 0 2;never 1 0;"), 0, 0, 0, 1);
        });
        test(words, "REFUSED as she, not as he", () -> {
            MarriedStreets x = told("corner 0 0;corner 1 1;street 0 1 2 1;street 0 1 1 1;street 0 1 3 1;");
            law(x, "hers - his");
            matesAre(x, 0, 4, 2, 1);
            matesAre(x, 1, 5, 0, 1);
            matesAre(x, 2, 0, 3, 1);
            law(x, "1");
            matesAre(x, 0, 0, 0, 1);
        });
    }

    private static void lookIs(MarriedStreets x, int number, int left) {
        due("look(0, 0)", x.look(0, 0), number);
        due("look(0, 1)", x.look(0, 1), left);
    }

    private static void look() {
        promise(29);
        String words = "LOOK: the N (1 to 40, in no line) by which, wherever it comes, fewest MATES are left at the worst; of these "
                + "the least.";
        test(words, "1 tells as much as 2", () -> {
            lookIs(told(sideBySide(1, 1, 1)), 1, 1);
            lookIs(told(sideBySide(2, 1, 1)), 1, 2);
            lookIs(told(sideBySide(8, 1, 1)), 1, 8);
        });
        test(words, "2 tells more", () -> {
            lookIs(told(sideBySide(2, 2, 1)), 2, 1);
            lookIs(told(sideBySide(8, 20, 1)), 2, 7);
        });
        test(words, "in no line", () -> {
            lookIs(posted(2, 20, "2 0;"), 1, 1);
            lookIs(posted(2, 20, "2 0;1 1;"), 3, 1);
            lookIs(posted(2, 20, "40 0;39 0;"), 1, 1);
            lookIs(posted(2, 20, "40 0;1 1;"), 2, 1);
        });
        test(words, "no MATES are left ahead: the least in no line", () -> {
            lookIs(posted(2, 1, "1 20;"), 2, 0);
            lookIs(posted(2, 1, "1 20;2 20;3 20;4 20;5 20;6 20;7 20;8 20;"), 9, 0);
            lookIs(posted(2, 1, "2 20;3 20;4 20;5 20;6 20;7 20;8 20;9 20;"), 1, 0);
            lookIs(posted(2, 1, "1 20;2 20;3 20;5 20;6 20;7 20;8 20;9 20;"), 4, 0);
        });
        test(words, "wherever it comes: at the worst, not at the best", () -> {
            MarriedStreets x = told("corner 0 0;corner 1 1;street 0 1 3 1;" + "street 0 1 1 1;".repeat(7) + "never 0 1;");
            law(x, "his - hers");
            lookIs(x, 2, 6);
            law(x, "hers - his");
            lookIs(x, 1, 6);
        });
        test(NO_SUCH, "-1 and one more than the last, ahead of another what", () -> {
            refused("look(-1, 0)", NSEE, x -> x.look(-1, 0));
            refused("look(3, 0)", NSEE, x -> x.look(3, 0));
            refused("look(3, 2)", NSEE, x -> x.look(3, 2));
            refused("look(-1, -1)", NSEE, x -> x.look(-1, -1));
            refused("look(-2147483648, 0)", NSEE, x -> x.look(LEAST, 0));
        });
        test(OTHER, "-1 and 2", () -> {
            refused("look(0, -1)", IAE, x -> x.look(0, -1));
            refused("look(0, 2)", IAE, x -> x.look(0, 2));
            refused("look(2, 2147483647)", IAE, x -> x.look(2, MOST));
            refused("look(2, -2147483648)", IAE, x -> x.look(2, LEAST));
        });
    }

    private static void lookLeft() {
        promise(29);
        test("LOOK: 0 the N, 1 how many MATES are left at the worst.", "0 and 1", () -> {
            due("0 of none", posted(2, 1, "1 20;").look(0, 1), 0);
            due("1 of one", posted(1, 1, "").look(0, 1), 1);
        });
        test("LOOK: 0 the N, 1 how many MATES are left at the worst.", "never more than there are, never fewer than the kinds",
                () -> {
            for (int houses = 1; houses <= 20; houses++) {
                MarriedStreets x = posted(3, houses, "");
                due("of " + houses + " houses", x.look(0, 1), houses == 1 ? 3 : 2);
                due("by " + houses + " houses", x.look(0, 0), houses == 1 ? 1 : 2);
            }
        });
        test("Asked, nothing stays changed.", "behind mates(), look() and right()", () -> {
            MarriedStreets x = rich();
            x.mates(0, 0);
            x.look(0, 0);
            x.right(0);
            alike("mates(), look() and right()", x, rich());
        });
    }

    private static void right() {
        promise(30);
        String words = "How many lines of the POST are right for a STREET as it is, from the first on.";
        test(words, "no lines, and eight", () -> {
            due("none", posted(1, 4, "").right(0), 0);
            due("eight", posted(1, 4, "1 1;2 2;3 3;4 4;5 0;6 0;7 0;40 0;").right(0), 8);
        });
        test(words, "the first is wrong, the last is wrong", () -> {
            due("the first", posted(1, 4, "1 2;2 2;3 3;4 4;").right(0), 0);
            due("the second", posted(1, 4, "1 1;2 3;3 3;4 4;").right(0), 1);
            due("the eighth", posted(1, 4, "1 1;2 2;3 3;4 4;5 0;6 0;7 0;8 1;").right(0), 7);
        });
        test(words, "as it is: alone, she, he, parted", () -> {
            MarriedStreets x = posted(2, 20, "39 20;1 1;20 20;");
            due("alone", x.right(0), 0);
            work(x, "marry 0 1;");
            due("she", x.right(0), 2);
            due("he", x.right(1), 0);
            post(x, "40 20;39 0;1 1;");
            due("he", x.right(1), 2);
            due("she", x.right(0), 0);
            post(x, "20 20;21 0;39 20;");
            work(x, "part 0;");
            due("parted", x.right(0), 2);
        });
        test(NO_SUCH, "-1 and one more than the last", () -> {
            refused("right(-1)", NSEE, x -> x.right(-1));
            refused("right(3)", NSEE, x -> x.right(3));
            refused("right(2147483647)", NSEE, x -> x.right(MOST));
            refused("right(-2147483648)", NSEE, x -> x.right(LEAST));
        });
    }

    // ---- promises 33 and 34

    private static void suitorsRefused(int n, int v, int w, int what) {
        refused("suitors(" + n + ", " + v + ", " + w + ", " + what + ")", IAE, x -> x.suitors(n, v, w, what));
    }

    private static void suitors() {
        promise(33);
        String words = "SUITORS by n (0 to 20), v, w (0 to 40)";
        test(words, "n of -1 and 21", () -> {
            suitorsRefused(-1, 0, 0, 0);
            suitorsRefused(21, 0, 0, 0);
            suitorsRefused(LEAST, 0, 0, 0);
            suitorsRefused(MOST, 0, 0, 0);
        });
        test(words, "v of -1 and 41", () -> {
            suitorsRefused(0, -1, 0, 0);
            suitorsRefused(0, 41, 0, 0);
            suitorsRefused(0, LEAST, 0, 0);
            suitorsRefused(0, MOST, 0, 0);
        });
        test(words, "w of -1 and 41", () -> {
            suitorsRefused(0, 0, -1, 0);
            suitorsRefused(0, 0, 41, 0);
            suitorsRefused(0, 0, LEAST, 0);
            suitorsRefused(0, 0, MOST, 0);
        });
        test("IllegalArgumentException: another what (so below).", "-1 and 3", () -> {
            suitorsRefused(0, 0, 0, -1);
            suitorsRefused(0, 0, 0, 3);
            suitorsRefused(20, 40, 40, LEAST);
            suitorsRefused(20, 40, 40, MOST);
        });
        test(words, "0, 20 and 40 are taken", () -> {
            int[][] ends = {{0, 0, 0}, {20, 0, 0}, {0, 40, 40}, {20, 40, 40}, {20, 0, 40}, {20, 40, 0}};
            for (int[] e : ends) {
                for (int what = 0; what <= 2; what++) {
                    int asked = what;
                    taken(rich(), "suitors(" + e[0] + ", " + e[1] + ", " + e[2] + ", " + what + ")",
                            x -> x.suitors(e[0], e[1], e[2], asked));
                }
            }
        });
    }

    private static void suitorsAre(int n, int v, int w, int rests, int first, int together) {
        MarriedStreets x = new MarriedStreets();
        String by = n + ", " + v + ", " + w;
        due("suitors(" + by + ", 0)", x.suitors(n, v, w, 0), rests);
        due("suitors(" + by + ", 1)", x.suitors(n, v, w, 1), first);
        due("suitors(" + by + ", 2)", x.suitors(n, v, w, 2), together);
    }

    private static void suitorsRests() {
        promise(33);
        test("2 what both have by it together (0 without).", "the only offer is a REST", () -> {
            suitorsAre(0, 0, 0, 1, 0, 0);
            suitorsAre(0, 40, 40, 1, 0, 40);
            suitorsAre(0, 1, 1, 1, 0, 0);
            suitorsAre(0, 9, 1, 1, 0, 4);
        });
        test("by alike ones each has half of that (cut)", "1 each, of values 0 to 3", () -> {
            suitorsAre(1, 0, 0, 2, 0, 0);
            suitorsAre(1, 1, 1, 4, 0, 0);
            suitorsAre(1, 2, 2, 4, 0, 2);
            suitorsAre(1, 3, 3, 1, 101, 2);
        });
        test("RESTS: neither would have more by another offer.", "to 20", () -> {
            suitorsAre(20, 40, 40, 1, 2020, 20);
            suitorsAre(20, 40, 0, 20, 100, 39);
            suitorsAre(20, 0, 40, 20, 1, 39);
        });
        test("0 how many RESTS, 1 the first (100 times the one, and the other one; NONE)", "there is none for no n, v and w", () -> {
            for (int n = 0; n <= 20; n += 5) {
                MarriedStreets x = new MarriedStreets();
                for (int v = 0; v <= 40; v += 4) {
                    for (int w = 0; w <= 40; w += 4) {
                        due("RESTS by " + n + ", " + v + ", " + w, x.suitors(n, v, w, 0) > 0 ? 1 : 0, 1);
                        due("the first by " + n + ", " + v + ", " + w, x.suitors(n, v, w, 1) != NONE ? 1 : 0, 1);
                    }
                }
            }
        });
    }

    private static void gets() {
        promise(34);
        String words = "What the one has, if he offers so much, the other one so much (0 to 40 all).";
        test(words, "-1 and 41 of each", () -> {
            refused("gets(-1, 0, 0)", IAE, x -> x.gets(-1, 0, 0));
            refused("gets(41, 0, 0)", IAE, x -> x.gets(41, 0, 0));
            refused("gets(0, -1, 0)", IAE, x -> x.gets(0, -1, 0));
            refused("gets(0, 41, 0)", IAE, x -> x.gets(0, 41, 0));
            refused("gets(0, 0, -1)", IAE, x -> x.gets(0, 0, -1));
            refused("gets(0, 0, 41)", IAE, x -> x.gets(0, 0, 41));
            refused("gets(2147483647, -2147483648, 0)", IAE, x -> x.gets(MOST, LEAST, 0));
        });
        test(words, "0 and 40 of each", () -> {
            int[][] ends = {{0, 0, 0, 0}, {40, 0, 0, -40}, {0, 40, 0, 0}, {0, 0, 40, 20}, {40, 40, 0, -20}, {40, 0, 40, 0},
                {0, 40, 40, 0}, {40, 40, 40, 0}};
            for (int[] e : ends) {
                taken(rich(), "gets(" + e[0] + ", " + e[1] + ", " + e[2] + ")", e[3], x -> x.gets(e[0], e[1], e[2]));
            }
        });
        test("who offers more has v (the other one w) less his offer", "more by 1, less by 1", () -> {
            MarriedStreets x = new MarriedStreets();
            due("more", x.gets(20, 19, 30), 10);
            due("the most", x.gets(40, 39, 40), 0);
            due("more than it is worth", x.gets(31, 30, 30), -1);
        });
        test("who offers less: 0", "less by 1, and by all", () -> {
            MarriedStreets x = new MarriedStreets();
            due("less by 1", x.gets(19, 20, 30), 0);
            due("less by 1", x.gets(39, 40, 0), 0);
            due("nothing", x.gets(0, 1, 40), 0);
            due("nothing", x.gets(0, 40, 0), 0);
        });
        test("by alike ones each has half of that (cut)", "above and below 0", () -> {
            MarriedStreets x = new MarriedStreets();
            due("half of 1", x.gets(5, 5, 6), 0);
            due("half of 3", x.gets(5, 5, 8), 1);
            due("half of -1", x.gets(5, 5, 4), 0);
            due("half of -3", x.gets(5, 5, 2), -1);
            due("half of 40", x.gets(0, 0, 40), 20);
        });
    }
}
