/** Boundary cases of promises 10 to 16: what is asked of a STREET and its houses. */
final class StreetCases extends Trial {
    private static final String NO_SUCH = "NoSuchElementException: no such STREET, CORNER (so below, ahead of others).";
    private static final String OTHER = "IllegalArgumentException: another what (so below).";

    static void all() {
        street();
        streetValues();
        likes();
        banns();
        number();
        letter();
        letterOfCouples();
        last();
        missing();
    }

    /** Two streets of so many houses, the first married to the other one as she. */
    private static MarriedStreets couple(int hers, int his) {
        MarriedStreets x = told("corner 0 0;corner 1 1;street 0 1 " + hers + " 1;street 0 1 " + his + " 1;");
        work(x, "marry 0 1;");
        return x;
    }

    // ---- promise 10

    private static void street() {
        promise(10);
        test(NO_SUCH, "-1 and one more than the last", () -> {
            refused("street(-1, 0)", NSEE, x -> x.street(-1, 0));
            refused("street(3, 0)", NSEE, x -> x.street(3, 0));
            refused("street(-2147483648, 0)", NSEE, x -> x.street(LEAST, 0));
            refused("street(2147483647, 8)", NSEE, x -> x.street(MOST, 8));
            refused(() -> told(sideBySide(8, 1, 1)), "street(8, 0)", NSEE, x -> x.street(8, 0));
            taken(told(sideBySide(8, 1, 1)), "street(7, 0)", 0, x -> x.street(7, 0));
        });
        test(NO_SUCH, "ahead of another what", () -> {
            refused("street(3, 9)", NSEE, x -> x.street(3, 9));
            refused("street(-1, -1)", NSEE, x -> x.street(-1, -1));
        });
        test(OTHER, "-1 and 9", () -> {
            refused("street(0, -1)", IAE, x -> x.street(0, -1));
            refused("street(0, 9)", IAE, x -> x.street(0, 9));
            refused("street(2, -2147483648)", IAE, x -> x.street(2, LEAST));
            refused("street(2, 2147483647)", IAE, x -> x.street(2, MOST));
        });
    }

    private static void streetValues() {
        promise(10);
        test("Of a STREET: 0 A, 1 B, 2 H, 3 trees now, 4 LENGTH", "the least and the greatest", () -> {
            MarriedStreets x = told("corner 0 0;".repeat(9) + "corner 60 60;street 0 9 20 20;street 9 0 1 0;street 0 1 1 0;");
            int[][] due = {{0, 9, 20, 20, 120}, {9, 0, 1, 0, 120}, {0, 1, 1, 0, 0}};
            for (int s = 0; s <= 2; s++) {
                for (int what = 0; what <= 4; what++) {
                    due("street(" + s + ", " + what + ")", x.street(s, what), due[s][what]);
                }
            }
        });
        test("LENGTH of a STREET: steps sideways and up from A to B together.", "either way, sideways or up alone", () -> {
            MarriedStreets x = told("corner 10 10;corner 3 14;corner 10 60;corner 0 10;street 0 1 1 1;street 1 0 1 1;"
                    + "street 0 2 1 1;street 3 0 1 1;");
            int[] due = {11, 11, 50, 10};
            for (int s = 0; s <= 3; s++) {
                due("length of " + s, x.street(s, 4), due[s]);
            }
        });
        test("5 to whom it is married (NONE), 6 1 she, 0 not, 7 YEARS it has been (0 without), 8 holes.", "alone", () -> {
            MarriedStreets x = told(sideBySide(2, 1, 1));
            work(x, "marry 0 1;year;part 0;year;");
            int[] due = {NONE, 0, 0, 0};
            for (int what = 5; what <= 8; what++) {
                due("street(0, " + what + ")", x.street(0, what), due[what - 5]);
                due("street(1, " + what + ")", x.street(1, what), due[what - 5]);
            }
        });
        test("5 to whom it is married (NONE), 6 1 she, 0 not, 7 YEARS it has been (0 without), 8 holes.", "she and he", () -> {
            MarriedStreets x = told(sideBySide(8, 1, 1));
            work(x, "marry 7 0;year;year;again 9[quarrel 0;];");
            int[] hers = {0, 1, 2, 9};
            int[] his = {7, 0, 2, 9};
            for (int what = 5; what <= 8; what++) {
                due("street(7, " + what + ")", x.street(7, what), hers[what - 5]);
                due("street(0, " + what + ")", x.street(0, what), his[what - 5]);
            }
        });
        test("It is YEAR 0 at first, nobody is married, no holes.", "of each STREET", () -> {
            MarriedStreets x = told(sideBySide(8, 1, 1));
            due("the year", x.told(3), 0);
            for (int s = 0; s <= 7; s++) {
                due("mate of " + s, x.street(s, 5), NONE);
                due("holes of " + s, x.street(s, 8), 0);
            }
        });
    }

    // ---- promises 11 and 12

    private static void likes() {
        promise(11);
        test("IllegalArgumentException: one.", "of the first and of the last", () -> {
            refused("likes(0, 0)", IAE, x -> x.likes(0, 0));
            refused("likes(2, 2)", IAE, x -> x.likes(2, 2));
        });
        test(NO_SUCH, "each of both, ahead of one", () -> {
            refused("likes(3, 0)", NSEE, x -> x.likes(3, 0));
            refused("likes(0, 3)", NSEE, x -> x.likes(0, 3));
            refused("likes(-1, 0)", NSEE, x -> x.likes(-1, 0));
            refused("likes(0, -1)", NSEE, x -> x.likes(0, -1));
            refused("likes(3, 3)", NSEE, x -> x.likes(3, 3));
            refused("likes(-1, -1)", NSEE, x -> x.likes(-1, -1));
            refused("likes(-2147483648, 2147483647)", NSEE, x -> x.likes(LEAST, MOST));
        });
        test("By how much a STREET likes another.", "0, 9, 5 without, and married or not", () -> {
            MarriedStreets x = told(sideBySide(8, 1, 1) + "likes 0 7 0;likes 7 0 9;never 1 2;");
            due("0", x.likes(0, 7), 0);
            due("9", x.likes(7, 0), 9);
            due("5", x.likes(0, 6), 5);
            due("of whom it never marries", x.likes(1, 2), 5);
            work(x, "marry 0 7;");
            due("married", x.likes(0, 7), 0);
        });
    }

    private static void banns() {
        promise(12);
        String words = "0 yes, 1 one, 2 never, 3 REFUSED by the LAW (of these the least).";
        test(words, "each alone", () -> {
            MarriedStreets x = told(sideBySide(4, 1, 1) + "never 0 1;");
            due("yes", x.banns(2, 3), 0);
            due("one", x.banns(2, 2), 1);
            due("never", x.banns(0, 1), 2);
            due("never", x.banns(1, 0), 2);
            law(x, "1");
            due("REFUSED", x.banns(2, 3), 3);
        });
        test(words, "of two the least", () -> {
            MarriedStreets x = told(sideBySide(4, 1, 1) + "never 0 1;");
            law(x, "1");
            due("one and REFUSED", x.banns(0, 0), 1);
            due("never and REFUSED", x.banns(0, 1), 2);
        });
        test("(married or not; the first told as she)", "married, to one another or to others", () -> {
            MarriedStreets x = told(sideBySide(4, 1, 1));
            work(x, "marry 0 1;marry 2 3;");
            due("with its mate", x.banns(0, 1), 0);
            due("with its mate", x.banns(1, 0), 0);
            due("with another", x.banns(1, 2), 0);
        });
        test("(married or not; the first told as she)", "the LAW of hers and his", () -> {
            MarriedStreets x = told("corner 0 0;corner 1 1;street 0 1 2 1;street 0 1 1 1;");
            law(x, "hers - his");
            due("2 and 1", x.banns(0, 1), 3);
            due("1 and 2", x.banns(1, 0), 0);
        });
        test(NO_SUCH, "each of both", () -> {
            refused("banns(3, 0)", NSEE, x -> x.banns(3, 0));
            refused("banns(0, 3)", NSEE, x -> x.banns(0, 3));
            refused("banns(-1, 0)", NSEE, x -> x.banns(-1, 0));
            refused("banns(0, -1)", NSEE, x -> x.banns(0, -1));
            refused("banns(3, 3)", NSEE, x -> x.banns(3, 3));
            refused("banns(2147483647, -2147483648)", NSEE, x -> x.banns(MOST, LEAST));
        });
    }

    // ---- promise 13

    private static void number() {
        promise(13);
        test("The NUMBER of a house. IndexOutOfBoundsException: no such house", "0 and H and 1", () -> {
            refused("number(0, 0)", IOOBE, x -> x.number(0, 0));
            refused("number(0, 4)", IOOBE, x -> x.number(0, 4));
            refused("number(2, 3)", IOOBE, x -> x.number(2, 3));
            refused("number(0, -1)", IOOBE, x -> x.number(0, -1));
            refused("number(0, -2147483648)", IOOBE, x -> x.number(0, LEAST));
            refused("number(0, 2147483647)", IOOBE, x -> x.number(0, MOST));
            refused(() -> couple(20, 1), "number(0, 21)", IOOBE, x -> x.number(0, 21));
            refused(() -> couple(20, 1), "number(1, 2)", IOOBE, x -> x.number(1, 2));
        });
        test("IndexOutOfBoundsException: no such house (behind NoSuchElementException).", "no such STREET either", () -> {
            refused("number(3, 0)", NSEE, x -> x.number(3, 0));
            refused("number(3, 1)", NSEE, x -> x.number(3, 1));
            refused("number(-1, -1)", NSEE, x -> x.number(-1, -1));
            refused("number(-1, 1)", NSEE, x -> x.number(-1, 1));
        });
        test("Houses of a STREET are 1 to H; NUMBERS: not married, house I has I", "1 and 20", () -> {
            MarriedStreets x = told(sideBySide(1, 20, 1));
            taken(x, "number(0, 1)", 1, y -> y.number(0, 1));
            taken(x, "number(0, 20)", 20, y -> y.number(0, 20));
        });
        test("house I of hers (the first told) 2 I less 1, of his 2 I.", "1 and 20", () -> {
            MarriedStreets x = couple(20, 20);
            taken(x, "hers, 1", 1, y -> y.number(0, 1));
            taken(x, "hers, 20", 39, y -> y.number(0, 20));
            taken(x, "his, 1", 2, y -> y.number(1, 1));
            taken(x, "his, 20", 40, y -> y.number(1, 20));
        });
        test("house I of hers (the first told) 2 I less 1, of his 2 I.", "the first told by the STEP; parted, undone", () -> {
            MarriedStreets x = told(sideBySide(2, 5, 1));
            work(x, "marry 1 0;");
            due("hers", x.number(1, 5), 9);
            due("his", x.number(0, 5), 10);
            x.undo();
            due("undone", x.number(0, 5), 5);
            work(x, "marry 1 0;part 0;");
            due("parted", x.number(1, 5), 5);
        });
    }

    // ---- promise 14

    private static void letter() {
        promise(14);
        test("Where a letter to a NUMBER (1 to 99)", "1 and 99, not 0 and 100", () -> {
            refused("letter(0, 0)", IAE, x -> x.letter(0, 0));
            refused("letter(0, 100)", IAE, x -> x.letter(0, 100));
            refused("letter(0, -1)", IAE, x -> x.letter(0, -1));
            refused("letter(2, 2147483647)", IAE, x -> x.letter(2, MOST));
            refused("letter(2, -2147483648)", IAE, x -> x.letter(2, LEAST));
            taken(rich(), "letter(1, 1)", 101, x -> x.letter(1, 1));
            taken(rich(), "letter(1, 99)", NONE, x -> x.letter(1, 99));
        });
        test(NO_SUCH, "ahead of no NUMBER", () -> {
            refused("letter(3, 1)", NSEE, x -> x.letter(3, 1));
            refused("letter(-1, 1)", NSEE, x -> x.letter(-1, 1));
            refused("letter(3, 0)", NSEE, x -> x.letter(3, 0));
            refused("letter(-1, 100)", NSEE, x -> x.letter(-1, 100));
        });
        test("100 times the STREET, and the house; NONE: nowhere.", "alone: 1, H, and one more", () -> {
            MarriedStreets x = told(sideBySide(8, 20, 1));
            due("letter(0, 1)", x.letter(0, 1), 1);
            due("letter(0, 20)", x.letter(0, 20), 20);
            due("letter(0, 21)", x.letter(0, 21), NONE);
            due("letter(7, 1)", x.letter(7, 1), 701);
            due("letter(7, 20)", x.letter(7, 20), 720);
            due("letter(7, 21)", x.letter(7, 21), NONE);
        });
    }

    private static void letterOfCouples() {
        promise(14);
        test("of a STREET (or the couple it is of)", "to her and to him, asked of either", () -> {
            MarriedStreets x = couple(20, 20);
            for (int s = 0; s <= 1; s++) {
                due("1", x.letter(s, 1), 1);
                due("2", x.letter(s, 2), 101);
                due("39", x.letter(s, 39), 20);
                due("40", x.letter(s, 40), 120);
                due("41", x.letter(s, 41), NONE);
                due("42", x.letter(s, 42), NONE);
                due("99", x.letter(s, 99), NONE);
            }
        });
        test("of a STREET (or the couple it is of)", "a NUMBER that none has, among others", () -> {
            MarriedStreets x = couple(1, 20);
            due("hers", x.letter(1, 1), 1);
            due("none of hers", x.letter(1, 3), NONE);
            due("his", x.letter(0, 40), 120);
            MarriedStreets y = couple(20, 1);
            due("his", y.letter(0, 2), 101);
            due("none of his", y.letter(0, 4), NONE);
            due("hers", y.letter(1, 39), 20);
        });
        test("a couple has its NUMBERS in common", "each NUMBER comes to the house that has it", () -> {
            MarriedStreets x = couple(4, 7);
            for (int house = 1; house <= 7; house++) {
                due("his " + house, x.letter(0, x.number(1, house)), 100 + house);
                if (house <= 4) {
                    due("hers " + house, x.letter(1, x.number(0, house)), house);
                }
            }
        });
    }

    // ---- promises 15 and 16

    private static void last() {
        promise(15);
        test("The greatest NUMBER that a STREET (or the couple it is of) has.", "alone: 1 and 20", () -> {
            due("1", told(sideBySide(1, 1, 1)).last(0), 1);
            due("20", told(sideBySide(8, 20, 1)).last(7), 20);
        });
        test("The greatest NUMBER that a STREET (or the couple it is of) has.", "hers or his, asked of either", () -> {
            int[][] cases = {{1, 1, 2}, {2, 1, 3}, {1, 2, 4}, {20, 1, 39}, {20, 19, 39}, {20, 20, 40}, {1, 20, 40}};
            for (int[] c : cases) {
                MarriedStreets x = couple(c[0], c[1]);
                due("hers " + c[0] + ", his " + c[1] + ", of her", x.last(0), c[2]);
                due("hers " + c[0] + ", his " + c[1] + ", of him", x.last(1), c[2]);
            }
        });
        test(NO_SUCH, "-1 and one more than the last", () -> {
            refused("last(-1)", NSEE, x -> x.last(-1));
            refused("last(3)", NSEE, x -> x.last(3));
            refused("last(2147483647)", NSEE, x -> x.last(MOST));
            refused("last(-2147483648)", NSEE, x -> x.last(LEAST));
        });
    }

    private static void missing() {
        promise(16);
        test("How many NUMBERS, 1 to the greatest, no house has, of a STREET (or its couple).", "alone: none", () -> {
            due("1", told(sideBySide(1, 1, 1)).missing(0), 0);
            due("20", told(sideBySide(8, 20, 1)).missing(7), 0);
        });
        test("How many NUMBERS, 1 to the greatest, no house has, of a STREET (or its couple).", "asked of either", () -> {
            int[][] cases = {{1, 1, 0}, {2, 1, 0}, {1, 2, 1}, {3, 1, 1}, {20, 1, 18}, {20, 19, 0}, {20, 20, 0}, {1, 20, 19}};
            for (int[] c : cases) {
                MarriedStreets x = couple(c[0], c[1]);
                due("hers " + c[0] + ", his " + c[1] + ", of her", x.missing(0), c[2]);
                due("hers " + c[0] + ", his " + c[1] + ", of him", x.missing(1), c[2]);
            }
        });
        test(NO_SUCH, "-1 and one more than the last", () -> {
            refused("missing(-1)", NSEE, x -> x.missing(-1));
            refused("missing(3)", NSEE, x -> x.missing(3));
            refused("missing(2147483647)", NSEE, x -> x.missing(MOST));
            refused("missing(-2147483648)", NSEE, x -> x.missing(LEAST));
        });
    }
}
