/** Boundary cases of promises 35 to 37: YEARS ahead, CENTURIES, and many SEEDS. */
final class DreamCases extends Trial {
    private static final String OTHER = "IllegalArgumentException: another what (so below).";

    static void all() {
        ahead();
        aheadValues();
        centuriesRefused();
        centuriesDraws();
        centuriesYears();
        centuriesSeeds();
        spanRefused();
        spanValues();
        unchanged();
    }

    private static void years(MarriedStreets x, int many) {
        for (int left = many; left > 0; left -= 20) {
            work(x, "again " + Math.min(20, left) + "[year;];");
        }
    }

    private static MarriedStreets lived(int streets, String work) {
        MarriedStreets x = told(sideBySide(streets, 1, 1));
        work(x, work);
        return x;
    }

    // ---- promise 35

    private static void ahead() {
        promise(35);
        test("In so many YEARS (0 to 60), nothing being done", "0 and 60, not -1 and 61", () -> {
            refused("ahead(-1, 0)", IAE, x -> x.ahead(-1, 0));
            refused("ahead(61, 0)", IAE, x -> x.ahead(61, 0));
            refused("ahead(2147483647, 2)", IAE, x -> x.ahead(MOST, 2));
            refused("ahead(-2147483648, 2)", IAE, x -> x.ahead(LEAST, 2));
            taken(rich(), "ahead(0, 2)", 1, x -> x.ahead(0, 2));
            taken(rich(), "ahead(60, 2)", 61, x -> x.ahead(60, 2));
        });
        test(OTHER, "-1 and 3", () -> {
            refused("ahead(0, -1)", IAE, x -> x.ahead(0, -1));
            refused("ahead(0, 3)", IAE, x -> x.ahead(0, 3));
            refused("ahead(60, 2147483647)", IAE, x -> x.ahead(60, MOST));
            refused("ahead(60, -2147483648)", IAE, x -> x.ahead(60, LEAST));
        });
    }

    private static void aheadValues() {
        promise(35);
        String words = "0 couples, 1 holes in all, 2 YEARS the longest couple has been married (0 without).";
        test(words, "now, though 10 holes will part them", () -> {
            MarriedStreets x = lived(4, "marry 0 1;marry 2 3;again 5[quarrel 0;];quarrel 2;");
            due("couples now", x.ahead(0, 0), 2);
            due("couples in a YEAR", x.ahead(1, 0), 1);
            due("holes now", x.ahead(0, 1), 12);
            due("holes in 24 YEARS", x.ahead(24, 1), 12);
            due("holes in 25 YEARS", x.ahead(25, 1), 10);
        });
        test(words, "the longest of several, and without", () -> {
            MarriedStreets x = lived(4, "marry 0 1;year;year;marry 2 3;");
            due("now", x.ahead(0, 2), 2);
            due("in 60", x.ahead(60, 2), 62);
            work(x, "again 5[quarrel 0;];");
            due("without the longer one", x.ahead(1, 2), 1);
            work(x, "part 0;part 2;");
            due("without", x.ahead(60, 2), 0);
            due("without any STREET", new MarriedStreets().ahead(60, 2), 0);
            due("none", new MarriedStreets().ahead(60, 0), 0);
        });
        test("year: the YEAR is one more (REFUSED from 200 on)", "ahead of 200 and at it", () -> {
            MarriedStreets x = lived(2, "marry 0 1;");
            years(x, 199);
            due("in 1", x.ahead(1, 2), 200);
            due("in 60", x.ahead(60, 2), 200);
            work(x, "year;again 5[quarrel 0;];");
            due("nobody parts from 200 on", x.ahead(60, 0), 1);
            due("holes", x.ahead(60, 1), 10);
        });
    }

    // ---- promise 36

    private static void centuriesRefused() {
        promise(36);
        test("CENTURIES of so many YEARS (1 to 100), Q (0 to 16)", "0 and 101 YEARS", () -> {
            refused("centuries(1, 0, 0, 0)", IAE, x -> x.centuries(1, 0, 0, 0));
            refused("centuries(1, 0, 101, 0)", IAE, x -> x.centuries(1, 0, 101, 0));
            refused("centuries(1, 0, -1, 0)", IAE, x -> x.centuries(1, 0, -1, 0));
            refused("centuries(1, 0, 2147483647, 0)", IAE, x -> x.centuries(1, 0, MOST, 0));
        });
        test("CENTURIES of so many YEARS (1 to 100), Q (0 to 16)", "Q of -1 and 17", () -> {
            refused("centuries(1, -1, 1, 0)", IAE, x -> x.centuries(1, -1, 1, 0));
            refused("centuries(1, 17, 1, 0)", IAE, x -> x.centuries(1, 17, 1, 0));
            refused("centuries(1, -2147483648, 1, 0)", IAE, x -> x.centuries(1, LEAST, 1, 0));
        });
        test(OTHER, "-1 and 4", () -> {
            refused("centuries(1, 0, 1, -1)", IAE, x -> x.centuries(1, 0, 1, -1));
            refused("centuries(1, 0, 1, 4)", IAE, x -> x.centuries(1, 0, 1, 4));
            refused("centuries(1, 16, 100, 2147483647)", IAE, x -> x.centuries(1, 16, 100, MOST));
        });
        test("CENTURIES of so many YEARS (1 to 100), Q (0 to 16)", "1 and 100, 0 and 16, any SEED", () -> {
            for (int seed : new int[] {LEAST, -1, 0, 1, MOST}) {
                for (int what = 0; what <= 3; what++) {
                    int asked = what;
                    taken(rich(), "centuries(" + seed + ", 0, 1, " + what + ")", x -> x.centuries(seed, 0, 1, asked));
                    taken(rich(), "centuries(" + seed + ", 16, 100, " + what + ")", x -> x.centuries(seed, 16, 100, asked));
                }
            }
        });
    }

    /** By hand: seed 1 draws 838 (by 16: 6), then 5758, then 10113 (by 16: 1). */
    private static void centuriesDraws() {
        promise(36);
        String words = "DRAW by 16 below Q (if there are STREETS): the STREET that is a second DRAW by how many there are quarrels "
                + "(as a STEP); then year.";
        test(words, "below Q: 6 by 6 and by 7", () -> {
            MarriedStreets x = lived(2, "marry 0 1;");
            due("by 6", x.centuries(1, 6, 1, 3), 0);
            due("by 7", x.centuries(1, 7, 1, 3), 1);
            due("by 0", x.centuries(1, 0, 1, 3), 0);
            due("by 16", x.centuries(1, 16, 1, 3), 1);
        });
        test(words, "no second DRAW without a quarrel", () -> {
            MarriedStreets x = lived(2, "marry 0 1;");
            due("14 by 16, 2 YEARS by 14", x.centuries(1, 6, 2, 3), 0);
            due("1 by 16 in the third YEAR", x.centuries(1, 6, 3, 3), 1);
        });
        test(words, "by how many there are: 5758 by 2 to 8", () -> {
            int[] drawn = {0, 0, 0, 1, 2, 3, 4, 4, 6};
            for (int streets = 2; streets <= 8; streets++) {
                for (int s = 0; s < streets; s++) {
                    MarriedStreets x = lived(streets, "marry " + s + " " + (s == 0 ? streets - 1 : 0) + ";");
                    boolean quarrels = drawn[streets] == s || drawn[streets] == (s == 0 ? streets - 1 : 0);
                    due("of " + streets + " the couple of " + s, x.centuries(1, 7, 1, 3), quarrels ? 1 : 0);
                }
            }
        });
        test(words, "if there are STREETS", () -> {
            for (int what = 0; what <= 3; what++) {
                due("of none, " + what, new MarriedStreets().centuries(1, 16, 100, what), 0);
                due("of one, " + what, told(sideBySide(1, 1, 1)).centuries(1, 16, 100, what), 0);
            }
        });
        test(words, "as a STEP: of one alone, and of 9 holes each", () -> {
            due("alone", lived(2, "").centuries(1, 16, 100, 3), 0);
            MarriedStreets x = lived(2, "marry 0 1;again 9[quarrel 0;];");
            due("9 and 9 holes", x.centuries(1, 16, 1, 3), 0);
        });
        test(words, "the quarrel is ahead of the year", () -> {
            MarriedStreets x = lived(2, "marry 0 1;again 4[quarrel 0;];");
            due("couples", x.centuries(1, 16, 1, 0), 0);
            due("parted", x.centuries(1, 16, 1, 1), 1);
            due("holes", x.centuries(1, 16, 1, 2), 10);
            due("quarrels", x.centuries(1, 16, 1, 3), 1);
            MarriedStreets y = lived(2, "marry 0 1;");
            years(y, 24);
            work(y, "again 9[quarrel 0;];");
            due("repaved behind it", y.centuries(1, 16, 1, 2), 0);
        });
    }

    private static void centuriesYears() {
        promise(36);
        String words = "0 couples then, 1 how many parted in them, 2 holes in all, 3 quarrels that were done.";
        test(words, "by the fifth quarrel they part", () -> {
            MarriedStreets x = lived(2, "marry 0 1;");
            int[][] due = {{1, 0, 8, 4}, {0, 1, 10, 5}, {0, 1, 10, 5}};
            int[] years = {4, 5, 100};
            for (int i = 0; i < 3; i++) {
                for (int what = 0; what <= 3; what++) {
                    due("in " + years[i] + " YEARS, " + what, x.centuries(1, 16, years[i], what), due[i][what]);
                }
            }
        });
        test(words, "not how many parted ahead of them", () -> {
            MarriedStreets x = lived(2, "marry 0 1;part 0;marry 0 1;part 0;marry 0 1;");
            due("none in them", x.centuries(1, 0, 100, 1), 0);
            due("one in them", x.centuries(1, 16, 100, 1), 1);
        });
        test(words, "without quarrels: 24 and 25 YEARS", () -> {
            MarriedStreets x = lived(2, "marry 0 1;quarrel 0;");
            due("24", x.centuries(1, 0, 24, 2), 2);
            due("25", x.centuries(1, 0, 25, 2), 0);
        });
        test("year: the YEAR is one more (REFUSED from 200 on)", "CENTURIES at 200 and at 199", () -> {
            MarriedStreets x = lived(2, "marry 0 1;");
            years(x, 199);
            work(x, "again 5[quarrel 0;];");
            due("at 199: repaved at 200", x.centuries(1, 0, 100, 2), 0);
            due("at 199: to 9 and 9 behind it", x.centuries(1, 16, 100, 2), 18);
            due("nobody parts", x.centuries(1, 16, 100, 0), 1);
            work(x, "year;");
            due("at 200", x.centuries(1, 16, 9, 3), 9);
            due("at 200, no more", x.centuries(1, 16, 10, 3), 9);
            due("nobody parts", x.centuries(1, 16, 100, 1), 0);
        });
    }

    /** The quarrels of two married STREETS of so many, counted in another way. */
    private static int quarrels(int seed, int q, int years, int streets) {
        java.math.BigInteger by = java.math.BigInteger.valueOf(1103515245);
        java.math.BigInteger wrap = java.math.BigInteger.ONE.shiftLeft(32);
        java.math.BigInteger s = java.math.BigInteger.valueOf(seed).mod(wrap);
        int holes = 0;
        int done = 0;
        for (int year = 1; year <= years && holes < 5; year++) {
            s = s.multiply(by).add(java.math.BigInteger.valueOf(12345)).mod(wrap);
            if (s.shiftRight(16).intValue() % 32768 % 16 < q) {
                s = s.multiply(by).add(java.math.BigInteger.valueOf(12345)).mod(wrap);
                if (s.shiftRight(16).intValue() % 32768 % streets < 2) {
                    holes++;
                    done++;
                }
            }
            holes = year % 25 == 0 ? 0 : holes;
        }
        return done;
    }

    private static void centuriesSeeds() {
        promise(36);
        String words = "DRAW: the SEED (32 bits) becomes itself times 1,103,515,245, and 12,345 (it wraps); its bits 16 to 30, what is "
                + "left of them.";
        test(words, "the least, the greatest, and those round 0", () -> {
            for (int seed : new int[] {LEAST, LEAST + 1, -2, -1, 0, 1, 2, MOST - 1, MOST}) {
                for (int streets : new int[] {2, 3, 7, 8}) {
                    MarriedStreets x = lived(streets, "marry 1 0;");
                    for (int q : new int[] {0, 1, 8, 15, 16}) {
                        due("seed " + seed + ", Q " + q + ", " + streets + " STREETS", x.centuries(seed, q, 100, 3),
                                quarrels(seed, q, 100, streets));
                    }
                }
            }
        });
    }

    // ---- promise 37

    private static void spanRefusedBy(int many, int q, int years, int what, int street) {
        refused("span(1, " + many + ", " + q + ", " + years + ", " + what + ", " + street + ")", IAE,
                x -> x.span(1, many, q, years, what, street));
    }

    private static void spanRefused() {
        promise(37);
        test("Of so many SEEDS (1 to 20; seed, seed and 1, ..)", "0 and 21 SEEDS", () -> {
            spanRefusedBy(0, 0, 1, 0, 0);
            spanRefusedBy(21, 0, 1, 0, 0);
            spanRefusedBy(-1, 0, 1, 0, 0);
            spanRefusedBy(MOST, 0, 1, 0, 0);
        });
        test("CENTURIES of so many YEARS (1 to 100), Q (0 to 16)", "span, too: -1 and 17, 0 and 101", () -> {
            spanRefusedBy(1, -1, 1, 0, 0);
            spanRefusedBy(1, 17, 1, 0, 0);
            spanRefusedBy(1, 0, 0, 0, 0);
            spanRefusedBy(1, 0, 101, 0, 0);
        });
        test(OTHER, "-1 and 3", () -> {
            spanRefusedBy(1, 0, 1, -1, 0);
            spanRefusedBy(1, 0, 1, 3, 0);
            spanRefusedBy(20, 16, 100, MOST, 2);
        });
        test("(IllegalArgumentException: no such STREET, also for 0, 1.)", "-1 and one more than the last", () -> {
            for (int what = 0; what <= 2; what++) {
                spanRefusedBy(1, 0, 1, what, -1);
                spanRefusedBy(1, 0, 1, what, 3);
            }
            spanRefusedBy(1, 0, 1, 0, MOST);
            spanRefusedBy(1, 0, 1, 0, LEAST);
            refused(MarriedStreets::new, "span of no STREETS", IAE, x -> x.span(1, 1, 0, 1, 0, 0));
        });
        test("Of so many SEEDS (1 to 20; seed, seed and 1, ..)", "1 and 20, 0 and 16, 1 and 100, the last STREET", () -> {
            for (int what = 0; what <= 2; what++) {
                int asked = what;
                taken(rich(), "span(1, 1, 0, 1, " + what + ", 2)", x -> x.span(1, 1, 0, 1, asked, 2));
                taken(rich(), "span(1, 20, 16, 100, " + what + ", 2)", x -> x.span(1, 20, 16, 100, asked, 2));
            }
        });
    }

    private static void spanValues() {
        promise(37);
        String words = "0 the fewest couples then, 1 the most, 2 by how many a STREET is married still.";
        test(words, "none of the SEEDS parts, all of them part", () -> {
            MarriedStreets x = lived(2, "marry 0 1;");
            for (int s = 0; s <= 1; s++) {
                due("the fewest", x.span(1, 20, 0, 100, 0, s), 1);
                due("the most", x.span(1, 20, 0, 100, 1, s), 1);
                due("married still", x.span(1, 20, 0, 100, 2, s), 20);
                due("the fewest", x.span(1, 20, 16, 5, 0, s), 0);
                due("the most", x.span(1, 20, 16, 5, 1, s), 0);
                due("married still", x.span(1, 20, 16, 5, 2, s), 0);
                due("married still ahead of the fifth", x.span(1, 20, 16, 4, 2, s), 20);
            }
        });
        test(words, "one that is not married, the most couples", () -> {
            MarriedStreets x = lived(8, "marry 0 1;marry 2 3;marry 4 5;marry 6 7;");
            due("four", x.span(1, 20, 0, 100, 1, 7), 4);
            due("four", x.span(1, 20, 0, 100, 0, 7), 4);
            due("not married", lived(3, "marry 0 1;").span(1, 20, 0, 100, 2, 2), 0);
        });
        test("seed, seed and 1, ..", "each of them, as asked by centuries", () -> {
            MarriedStreets x = lived(4, "marry 0 1;marry 2 3;");
            for (int seed : new int[] {0, 7, -3}) {
                int fewest = 9;
                int most = 0;
                for (int many = 1; many <= 20; many++) {
                    int couples = x.centuries(seed + many - 1, 9, 18, 0);
                    fewest = Math.min(fewest, couples);
                    most = Math.max(most, couples);
                    due("the fewest of " + many + " from " + seed, x.span(seed, many, 9, 18, 0, 0), fewest);
                    due("the most of " + many + " from " + seed, x.span(seed, many, 9, 18, 1, 0), most);
                }
            }
        });
        test("seed, seed and 1, ..", "behind the greatest comes the least", () -> {
            for (int years = 6; years <= 20; years++) {
                MarriedStreets x = lived(4, "marry 0 1;marry 2 3;");
                int last = x.centuries(MOST, 12, years, 0);
                int next = x.centuries(LEAST, 12, years, 0);
                due("the fewest", x.span(MOST, 2, 12, years, 0, 0), Math.min(last, next));
                due("the most", x.span(MOST, 2, 12, years, 1, 0), Math.max(last, next));
            }
        });
        test(words, "asked of the one and of its mate", () -> {
            MarriedStreets x = lived(4, "marry 0 1;marry 2 3;");
            int still = 0;
            for (int i = 0; i < 20; i++) {
                still += quarrels(i, 6, 20, 4) >= 5 ? 0 : 1;
            }
            due("of 0", x.span(0, 20, 6, 20, 2, 0), still);
            due("of 1", x.span(0, 20, 6, 20, 2, 1), still);
            due("some, not all", still > 0 && still < 20 ? 1 : 0, 1);
        });
    }

    private static void unchanged() {
        promise(37);
        test("Asked, nothing stays changed.", "behind ahead(), centuries(), span()", () -> {
            MarriedStreets x = rich();
            x.ahead(60, 1);
            x.centuries(1, 16, 100, 1);
            x.span(1, 20, 16, 100, 2, 1);
            alike("ahead(), centuries() and span()", x, rich());
        });
    }
}
