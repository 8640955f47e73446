/** Boundary cases of promises 17 to 21: MATCHINGS, STABLE, BEST, and who is tempted. */
final class MatchCases extends Trial {
    private static final String NO_SUCH = "NoSuchElementException: no such STREET, CORNER (so below, ahead of others).";
    /** Each of three likes the next one most. */
    private static final String CIRCLE = "likes 0 1 9;likes 1 2 9;likes 2 0 9;likes 1 0 3;likes 2 1 3;likes 0 2 3;";
    /** The first has two houses, the other one has one. */
    private static final String TWO_AND_ONE = "corner 0 0;corner 1 1;street 0 1 2 1;street 0 1 1 1;";

    static void all() {
        matchings();
        stable();
        stableFor();
        best();
        bestFor();
        tempted();
        temptedBy();
    }

    private static MarriedStreets ruled(String city, String law) {
        MarriedStreets x = told(city);
        due("law", law(x, law), 1);
        return x;
    }

    /** Whom each has, by BEST or by the first STABLE one. */
    private static void pairs(MarriedStreets x, boolean best, int... mates) {
        for (int s = 0; s < mates.length; s++) {
            due((best ? "bestFor(" : "stableFor(") + s + ")", best ? x.bestFor(s) : x.stableFor(s), mates[s]);
        }
    }

    private static String allNever(int many) {
        StringBuilder s = new StringBuilder();
        for (int a = 0; a < many; a++) {
            for (int b = a + 1; b < many; b++) {
                s.append("never ").append(a).append(' ').append(b).append(';');
            }
        }
        return s.toString();
    }

    /** The lesser one of each two likes the other one by 0, so that none would leave. */
    private static String coldToLater(int many) {
        return allNever(many).replace("never ", "likes ").replace(";", " 0;");
    }

    private static void matchings() {
        promise(17);
        String words = "A MATCHING: couples of STREETS that are not married, of whom none is in two, no never, no REFUSED ones "
                + "(the lesser number as she); some may stay alone.";
        test(words, "how many there are of 0 to 8 STREETS", () -> {
            int[] many = {1, 1, 2, 4, 10, 26, 76, 232, 764};
            for (int streets = 0; streets <= 8; streets++) {
                due("of " + streets, told(sideBySide(streets, 1, 1) + coldToLater(streets)).stable(), many[streets]);
            }
        });
        test(words, "not those that are married", () -> {
            MarriedStreets x = told(sideBySide(4, 1, 1) + coldToLater(4));
            work(x, "marry 3 0;");
            due("1 and 2, or not", x.stable(), 2);
            due("best()", x.best(), 5);
            work(x, "marry 1 2;");
            due("nobody", x.stable(), 1);
            due("best()", x.best(), 0);
            work(x, "part 0;part 1;");
            due("all again", x.stable(), 10);
        });
        test(words, "no never", () -> {
            due("one of three", told(sideBySide(3, 1, 1) + coldToLater(3) + "never 2 0;").stable(), 3);
            due("all of eight", told(sideBySide(8, 1, 1) + allNever(8)).stable(), 1);
            due("best() of none", told(sideBySide(8, 1, 1) + allNever(8)).best(), 0);
        });
        test(words, "no REFUSED ones: 1, not 0", () -> {
            due("1", ruled(sideBySide(3, 1, 1) + coldToLater(3), "1").stable(), 1);
            due("0", ruled(sideBySide(3, 1, 1) + coldToLater(3), "0").stable(), 4);
        });
        test(words, "the lesser number as she", () -> {
            due("2 less 1", ruled(TWO_AND_ONE, "hers - his").best(), 0);
            due("1 less 2", ruled(TWO_AND_ONE, "his - hers").best(), 10);
        });
        test("Asked, nothing stays changed.", "behind all that can be asked of MATCHINGS", () -> {
            MarriedStreets x = rich();
            x.stable();
            x.stableFor(2);
            x.best();
            x.bestFor(2);
            x.tempted();
            alike("asking", x, rich());
        });
    }

    private static void stable() {
        promise(17);
        String words = "STABLE: there are no two of them that could be a couple (lesser as she), are none, and like one another "
                + "each more than whom it has (alone: 0).";
        test(words, "none, one and two STREETS", () -> {
            due("none", new MarriedStreets().stable(), 1);
            due("one", told(sideBySide(1, 1, 1)).stable(), 1);
            due("two", told(sideBySide(2, 1, 1)).stable(), 1);
        });
        test(words, "7 and 8 STREETS", () -> {
            due("seven", told(sideBySide(7, 1, 1)).stable(), 105);
            due("eight", told(sideBySide(8, 1, 1)).stable(), 105);
        });
        test(words, "alone: 0, by 0 and by 1", () -> {
            due("both by 0", told(sideBySide(2, 1, 1) + "likes 0 1 0;likes 1 0 0;").stable(), 2);
            due("she by 0", told(sideBySide(2, 1, 1) + "likes 0 1 0;").stable(), 2);
            due("he by 0", told(sideBySide(2, 1, 1) + "likes 1 0 0;").stable(), 2);
            due("both by 1", told(sideBySide(2, 1, 1) + "likes 0 1 1;likes 1 0 1;").stable(), 1);
        });
        test(words, "each more, not as much", () -> {
            due("as much", told(sideBySide(3, 1, 1)).stable(), 3);
            due("one of them more", told(sideBySide(3, 1, 1) + "likes 0 1 6;").stable(), 2);
            due("both more", told(sideBySide(3, 1, 1) + "likes 0 1 6;likes 1 0 6;").stable(), 1);
        });
        test(words, "who could be no couple tempts none", () -> {
            String warm = sideBySide(3, 1, 1) + "likes 0 1 9;likes 1 0 9;";
            due("never", told(warm + "never 0 1;").stable(), 2);
            due("REFUSED", ruled(warm, "likes - 8").stable(), 2);
        });
        test(words, "who is married tempts none", () -> {
            MarriedStreets x = told(sideBySide(4, 1, 1) + "likes 0 2 9;likes 2 0 9;");
            work(x, "marry 0 1;");
            due("2 and 3", x.stable(), 1);
            due("2 and 3", x.stableFor(2), 3);
        });
        test("STABLE MATCHINGS: how many.", "none at all", () -> due("a circle of three",
                told(sideBySide(3, 1, 1) + CIRCLE).stable(), 0));
    }

    private static void stableFor() {
        promise(18);
        String words = "Whom a STREET has by the first STABLE one (in the order of BEST); NONE: nobody, or there is none.";
        test(words, "there is none", () -> pairs(told(sideBySide(3, 1, 1) + CIRCLE), false, NONE, NONE, NONE));
        test(words, "there is none, behind one that there was", () -> {
            MarriedStreets x = told(sideBySide(4, 1, 1) + CIRCLE + "never 0 3;never 1 3;never 2 3;");
            work(x, "marry 0 1;");
            x.stableFor(2);
            x.undo();
            pairs(x, false, NONE, NONE, NONE, NONE);
        });
        test(words, "alone ahead of others, of these the lowest", () -> {
            pairs(told(sideBySide(2, 1, 1)), false, 1, 0);
            pairs(told(sideBySide(2, 1, 1) + "likes 1 0 0;"), false, NONE, NONE);
            pairs(told(sideBySide(3, 1, 1)), false, NONE, 2, 1);
            pairs(told(sideBySide(4, 1, 1)), false, 1, 0, 3, 2);
            pairs(told(sideBySide(8, 1, 1)), false, 1, 0, 3, 2, 5, 4, 7, 6);
            pairs(told(sideBySide(8, 1, 1) + coldToLater(8)), false, NONE, NONE, NONE, NONE, NONE, NONE, NONE, NONE);
        });
        test(words, "a married STREET and a single one", () -> {
            MarriedStreets x = told(sideBySide(4, 1, 1));
            work(x, "marry 1 2;");
            pairs(x, false, 3, NONE, NONE, 0);
            pairs(told(sideBySide(1, 1, 1)), false, NONE);
        });
        test(NO_SUCH, "-1 and one more than the last", () -> {
            refused("stableFor(-1)", NSEE, x -> x.stableFor(-1));
            refused("stableFor(3)", NSEE, x -> x.stableFor(3));
            refused("stableFor(2147483647)", NSEE, x -> x.stableFor(MOST));
            refused("stableFor(-2147483648)", NSEE, x -> x.stableFor(LEAST));
        });
    }

    private static void best() {
        promise(19);
        test("WARM: how much all couples like one another, together.", "0 and 72", () -> {
            due("none", new MarriedStreets().best(), 0);
            due("one STREET", told(sideBySide(1, 1, 1)).best(), 0);
            due("two that like by 0", told(sideBySide(2, 1, 1) + "likes 0 1 0;likes 1 0 0;").best(), 0);
            due("72", told(sideBySide(8, 1, 1) + "likes 0 7 9;likes 7 0 9;likes 1 6 9;likes 6 1 9;likes 2 5 9;likes 5 2 9;"
                    + "likes 3 4 9;likes 4 3 9;").best(), 72);
        });
        test("WARM: how much all couples like one another, together.", "she him and he her", () -> {
            due("9 and 0", told(sideBySide(2, 1, 1) + "likes 0 1 9;likes 1 0 0;").best(), 9);
            due("0 and 9", told(sideBySide(2, 1, 1) + "likes 0 1 0;likes 1 0 9;").best(), 9);
            due("5 and 5, twice", told(sideBySide(4, 1, 1)).best(), 20);
        });
        test("BEST: the MATCHING of most WARM", "STABLE or not", () -> {
            MarriedStreets x = told(sideBySide(4, 1, 1) + "likes 0 1 6;likes 1 0 6;likes 0 2 9;likes 1 3 9;");
            due("0 2, 1 3", x.best(), 28);
            due("in a circle", told(sideBySide(3, 1, 1) + CIRCLE).best(), 12);
        });
    }

    private static void bestFor() {
        promise(20);
        String words = "of alike ones the first (STREET by STREET, lowest first: alone ahead of others, of these the lowest).";
        test(words, "alone ahead of others", () -> {
            pairs(told(sideBySide(2, 1, 1) + "likes 0 1 0;likes 1 0 0;"), true, NONE, NONE);
            pairs(told(sideBySide(3, 1, 1)), true, NONE, 2, 1);
        });
        test(words, "warmer by 1 than alone", () -> pairs(told(sideBySide(2, 1, 1) + "likes 0 1 0;likes 1 0 1;"), true, 1, 0));
        test(words, "of these the lowest", () -> {
            pairs(told(sideBySide(4, 1, 1)), true, 1, 0, 3, 2);
            pairs(told(sideBySide(8, 1, 1)), true, 1, 0, 3, 2, 5, 4, 7, 6);
            pairs(told(sideBySide(7, 1, 1)), true, NONE, 2, 1, 4, 3, 6, 5);
        });
        test(words, "warmer by 1, though later", () -> {
            pairs(told(sideBySide(4, 1, 1) + "likes 0 3 6;"), true, 3, 2, 1, 0);
            pairs(told(sideBySide(3, 1, 1) + "likes 2 0 6;"), true, 2, NONE, 0);
        });
        test("Whom a STREET has by BEST; NONE.", "a married STREET and a single one", () -> {
            MarriedStreets x = told(sideBySide(4, 1, 1));
            work(x, "marry 1 2;");
            pairs(x, true, 3, NONE, NONE, 0);
            pairs(told(sideBySide(1, 1, 1)), true, NONE);
            pairs(told(sideBySide(3, 1, 1) + "never 0 1;never 0 2;"), true, NONE, 2, 1);
        });
        test(NO_SUCH, "-1 and one more than the last", () -> {
            refused("bestFor(-1)", NSEE, x -> x.bestFor(-1));
            refused("bestFor(3)", NSEE, x -> x.bestFor(3));
            refused("bestFor(2147483647)", NSEE, x -> x.bestFor(MOST));
            refused("bestFor(-2147483648)", NSEE, x -> x.bestFor(LEAST));
        });
    }

    private static void tempted() {
        promise(21);
        test("10 times the lesser, and the other one, the least such; NONE.", "the first and the last two", () -> {
            due("of 8: 0 and 1", told(sideBySide(8, 1, 1)).tempted(), 1);
            String onlyLast = allNever(8).replace("never 6 7;", "");
            due("of 8: 6 and 7", told(sideBySide(8, 1, 1) + onlyLast).tempted(), 67);
            due("of none", new MarriedStreets().tempted(), NONE);
            due("of one", told(sideBySide(1, 1, 1)).tempted(), NONE);
            due("all never", told(sideBySide(8, 1, 1) + allNever(8)).tempted(), NONE);
        });
        test("10 times the lesser, and the other one, the least such; NONE.", "of several the least lesser one", () -> {
            due("0 3 and 1 2", told(sideBySide(4, 1, 1) + "never 0 1;never 0 2;").tempted(), 3);
            due("1 2 and 2 3", told(sideBySide(4, 1, 1) + "never 0 1;never 0 2;never 0 3;").tempted(), 12);
        });
        test("like one another each more than whom they have now (alone: 0)", "alone: by 0 and by 1", () -> {
            due("both by 1", told(sideBySide(2, 1, 1) + "likes 0 1 1;likes 1 0 1;").tempted(), 1);
            due("she by 0", told(sideBySide(2, 1, 1) + "likes 0 1 0;").tempted(), NONE);
            due("he by 0", told(sideBySide(2, 1, 1) + "likes 1 0 0;").tempted(), NONE);
        });
        test("like one another each more than whom they have now (alone: 0)", "as much, one more, both more", () -> {
            String three = sideBySide(3, 1, 1) + "never 0 1;";
            MarriedStreets x = told(three);
            work(x, "marry 0 1;marry 0 2;");
            due("1 is alone, but never 0; 1 2: 2 likes as much", x.tempted(), NONE);
            MarriedStreets y = told(three + "likes 2 1 6;");
            work(y, "marry 0 2;");
            due("2 likes 1 more by 1", y.tempted(), 12);
            MarriedStreets z = told(three + "likes 2 1 6;likes 1 2 0;");
            work(z, "marry 0 2;");
            due("but 1 doesn't", z.tempted(), NONE);
        });
    }

    private static void temptedBy() {
        promise(21);
        test("Two that are not married to one another, but could be (banns 0, the lesser as she)", "married ones", () -> {
            MarriedStreets x = told(sideBySide(2, 1, 1));
            work(x, "marry 0 1;");
            due("to one another", x.tempted(), NONE);
            MarriedStreets y = told(sideBySide(4, 1, 1) + "likes 2 3 9;likes 3 2 9;");
            work(y, "marry 2 0;marry 1 3;");
            due("both to others", y.tempted(), 23);
        });
        test("Two that are not married to one another, but could be (banns 0, the lesser as she)", "never", () ->
                due("never", told(sideBySide(2, 1, 1) + "never 1 0;").tempted(), NONE));
        test("Two that are not married to one another, but could be (banns 0, the lesser as she)", "the LAW", () -> {
            due("1", ruled(sideBySide(2, 1, 1), "1").tempted(), NONE);
            due("0", ruled(sideBySide(2, 1, 1), "0").tempted(), 1);
            due("2 less 1", ruled(TWO_AND_ONE, "hers - his").tempted(), NONE);
            due("1 less 2", ruled(TWO_AND_ONE, "his - hers").tempted(), 1);
        });
    }
}
