/** Boundary cases of promises 22 to 25, 31 and 32: WAYS, ROUNDS, what can be reached, bridges, the LANE. */
final class RoadCases extends Trial {
    private static final String NO_SUCH = "NoSuchElementException: no such STREET, CORNER (so below, ahead of others).";
    /** Nine corners in a line, each a street of 1 from the next. */
    private static final String LINE = "corner 0 0;corner 1 0;corner 2 0;corner 3 0;corner 4 0;corner 5 0;corner 6 0;"
            + "corner 7 0;corner 8 0;street 0 1 1 1;street 1 2 1 1;street 2 3 1 1;street 3 4 1 1;street 4 5 1 1;street 5 6 1 1;"
            + "street 6 7 1 1;street 7 8 1 1;";
    /** Corners 0 to 3 in a ring, 4 at a tail, 5 by itself. */
    private static final String RING = "corner 0 0;corner 4 0;corner 4 3;corner 0 3;corner 10 0;corner 60 60;"
            + "street 0 1 1 1;street 1 2 1 1;street 2 3 1 1;street 3 0 1 1;street 1 4 1 1;";

    static void all() {
        way();
        round();
        roundOfStreets();
        reach();
        bridges();
        lane();
        stop();
    }

    // ---- promises 22 to 25

    private static void way() {
        promise(22);
        String words = "WAY from CORNER to CORNER: the shortest along STREETS; NONE.";
        test(words, "itself, with STREETS and without", () -> {
            due("at a STREET", told(RING).way(0, 0), 0);
            due("at none", told(RING).way(5, 5), 0);
            due("of ten", told("corner 9 9;".repeat(10)).way(9, 9), 0);
        });
        test(words, "0 long, yet not NONE", () -> {
            MarriedStreets x = told("corner 5 5;corner 5 5;corner 5 5;street 0 1 1 1;");
            due("by a STREET of 0", x.way(0, 1), 0);
            due("without a STREET", x.way(0, 2), NONE);
        });
        test(words, "none, either way", () -> {
            due("to it", told(RING).way(0, 5), NONE);
            due("from it", told(RING).way(5, 0), NONE);
        });
        test(words, "by all eight STREETS, against their order, too", () -> {
            due("8", told(LINE).way(0, 8), 8);
            due("8", told(LINE).way(8, 0), 8);
            StringBuilder s = new StringBuilder("corner 0 0;corner 60 60;".repeat(4)).append("corner 0 0;");
            for (int i = 8; i >= 1; i--) {
                s.append("street ").append(i).append(' ').append(i - 1).append(" 1 1;");
            }
            due("the longest", told(s.toString()).way(0, 8), 960);
            due("the longest", told(s.toString()).way(8, 0), 960);
        });
        test(words, "of two the shorter, by 2", () -> {
            String four = "corner 10 10;corner 20 10;corner 15 9;corner 15 12;";
            due("up or down", told(four + "street 0 3 1 1;street 3 1 1 1;street 0 2 1 1;street 2 1 1 1;").way(0, 1), 12);
            due("down or up", told(four + "street 0 2 1 1;street 2 1 1 1;street 0 3 1 1;street 3 1 1 1;").way(0, 1), 12);
        });
        test(NO_SUCH, "each of both", () -> {
            refused("way(-1, 0)", NSEE, x -> x.way(-1, 0));
            refused("way(0, -1)", NSEE, x -> x.way(0, -1));
            refused("way(4, 0)", NSEE, x -> x.way(4, 0));
            refused("way(0, 4)", NSEE, x -> x.way(0, 4));
            refused("way(4, 4)", NSEE, x -> x.way(4, 4));
            refused("way(2147483647, -2147483648)", NSEE, x -> x.way(MOST, LEAST));
            taken(rich(), "way(3, 3)", 0, x -> x.way(3, 3));
        });
    }

    private static void round() {
        promise(23);
        test("ROUND (0: none is told).", "of no STREETS, though there are eight", () -> {
            due("of none", new MarriedStreets().round(0), 0);
            due("of eight", told(LINE).round(0), 0);
        });
        test("IllegalArgumentException: bits of no STREETS.", "below 0 and beyond the last", () -> {
            refused("round(-1)", IAE, x -> x.round(-1));
            refused("round(8)", IAE, x -> x.round(8));
            refused("round(9)", IAE, x -> x.round(9));
            refused("round(-2147483648)", IAE, x -> x.round(LEAST));
            refused("round(2147483647)", IAE, x -> x.round(MOST));
            refused(() -> told(LINE), "round(256)", IAE, x -> x.round(256));
            refused(MarriedStreets::new, "round(1)", IAE, x -> x.round(1));
        });
        test("IllegalArgumentException: bits of no STREETS.", "all bits of STREETS", () -> {
            taken(told(LINE), "round(255)", 16, x -> x.round(255));
            taken(rich(), "round(7)", 14, x -> x.round(7));
        });
    }

    private static void roundOfStreets() {
        promise(23);
        String words = "ROUND of told STREETS (bits): the shortest walk from a CORNER back to it that goes along each of them at least "
                + "once (along others as it likes); NONE.";
        test(words, "one STREET: there and back", () -> {
            due("the first", told(LINE).round(1), 2);
            due("the last", told(LINE).round(128), 2);
            due("0 long", told("corner 5 5;corner 5 5;street 0 1 1 1;").round(1), 0);
            due("as long as can be", told("corner 0 0;corner 60 60;street 0 1 1 1;").round(1), 240);
        });
        test(words, "two side by side: there by one, back by the other", () -> {
            due("both", told(sideBySide(2, 1, 1)).round(3), 2);
            due("one of them", told(sideBySide(2, 1, 1)).round(1), 2);
            due("three", told(sideBySide(3, 1, 1)).round(7), 4);
            due("eight", told(sideBySide(8, 1, 1)).round(255), 8);
        });
        test(words, "NONE: of two pieces", () -> {
            String pieces = "corner 0 0;corner 1 0;corner 5 5;corner 6 5;street 0 1 1 1;street 2 3 1 1;";
            due("one piece", told(pieces).round(1), 2);
            due("the other piece", told(pieces).round(2), 2);
            due("both", told(pieces).round(3), NONE);
            due("joined", told(pieces + "street 1 2 1 1;").round(3), 22);
        });
        test(words, "along others", () -> {
            due("the ends of a line", told(LINE).round(129), 16);
            due("round a ring", told(RING).round(5), 14);
            due("ring and tail", told(RING).round(31), 26);
            due("tail alone", told(RING).round(16), 12);
        });
        test(words, "the longest", () -> {
            StringBuilder s = new StringBuilder("corner 0 0;" + "corner 60 60;".repeat(8));
            for (int i = 1; i <= 8; i++) {
                s.append("street 0 ").append(i).append(" 1 1;");
            }
            due("eight there and back", told(s.toString()).round(255), 1920);
        });
    }

    private static void reach() {
        promise(24);
        test("CORNERS that a CORNER can go to, itself too, as bits.", "itself alone, and all ten", () -> {
            MarriedStreets x = told("corner 9 9;".repeat(10));
            due("the first", x.reach(0), 1);
            due("the last", x.reach(9), 512);
            MarriedStreets y = told(LINE + "corner 9 9;");
            due("a line", y.reach(4), 511);
            due("from its end", y.reach(8), 511);
            due("not the tenth", y.reach(9), 512);
            MarriedStreets z = told("corner 9 9;".repeat(10) + "street 0 9 1 1;street 9 5 1 1;");
            due("by STREETS of 0", z.reach(5), 1 | 32 | 512);
        });
        test(NO_SUCH, "-1 and one more than the last", () -> {
            refused("reach(-1)", NSEE, x -> x.reach(-1));
            refused("reach(4)", NSEE, x -> x.reach(4));
            refused("reach(2147483647)", NSEE, x -> x.reach(MOST));
            refused("reach(-2147483648)", NSEE, x -> x.reach(LEAST));
            taken(rich(), "reach(3)", 8, x -> x.reach(3));
        });
    }

    private static void bridges() {
        promise(25);
        String words = "STREETS without which their own CORNERS have no WAY: 0 how many, 1 the first (NONE).";
        test(words, "none: no STREETS, a ring, two side by side", () -> {
            String ring = RING.replace("street 1 4 1 1;", "");
            MarriedStreets[] all = {new MarriedStreets(), told(ring), told(sideBySide(2, 1, 1)),
                told("corner 5 5;corner 5 5;corner 5 5;street 0 1 1 1;street 1 2 1 1;street 2 0 1 1;")};
            for (int i = 0; i < all.length; i++) {
                due("how many, " + i, all[i].bridges(0), 0);
                due("the first, " + i, all[i].bridges(1), NONE);
            }
        });
        test(words, "one, and it is the last", () -> {
            due("how many", told(RING).bridges(0), 1);
            due("the first", told(RING).bridges(1), 4);
            due("of 0 length, too", told("corner 5 5;corner 5 5;street 0 1 1 1;").bridges(0), 1);
        });
        test(words, "all eight", () -> {
            due("how many", told(LINE).bridges(0), 8);
            due("the first", told(LINE).bridges(1), 0);
            MarriedStreets x = told(sideBySide(7, 1, 1) + "corner 2 2;street 1 2 1 1;");
            due("the eighth alone: how many", x.bridges(0), 1);
            due("the eighth alone: the first", x.bridges(1), 7);
        });
        test("IllegalArgumentException: another what (so below).", "-1 and 2", () -> {
            refused("bridges(-1)", IAE, x -> x.bridges(-1));
            refused("bridges(2)", IAE, x -> x.bridges(2));
            refused("bridges(2147483647)", IAE, x -> x.bridges(MOST));
            refused("bridges(-2147483648)", IAE, x -> x.bridges(LEAST));
        });
    }

    // ---- promises 31 and 32

    /** So many YEARS later, 171 at most by one WORK. */
    private static void years(MarriedStreets x, int many) {
        for (int left = many; left > 0; left -= 20) {
            work(x, "again " + Math.min(20, left) + "[year;];");
        }
    }

    private static void lane() {
        promise(31);
        String words = "LANE: in how many YEARS from now its end's X is first no more than the river's (0: it is; NONE: not in 100).";
        test(words, "it is: as much, and less", () -> {
            due("as much", told("lane 9 0 1 0;river 9;").lane(), 0);
            due("less by 1", told("lane 9 0 1 0;river 10;").lane(), 0);
            due("less, though it stays", told("lane 9 0 0 0;river 10;").lane(), 0);
            due("more by 1", told("lane 9 0 1 0;river 8;").lane(), 1);
        });
        test(words, "no more than the river's, when it steps across", () -> {
            due("60 by 9, six times", told("lane 60 0 9 0;river 6;").lane(), 6);
            due("60 by 9, seven times", told("lane 60 0 9 0;river 5;").lane(), 7);
            due("60 by 9 to 0", told("lane 60 0 9 0;").lane(), 7);
            due("1 by 9", told("lane 1 0 9 0;").lane(), 1);
        });
        test(words, "the longest: 60; and NONE", () -> {
            due("60", told("lane 60 0 1 0;river 0;").lane(), 60);
            due("without U", told("lane 60 0 0 9;river 59;").lane(), NONE);
            due("without U by 1", told("lane 1 0 0 9;").lane(), NONE);
        });
        test(words, "from now: the last years ahead of it, at it, behind it", () -> {
            MarriedStreets x = told("lane 30 0 1 0;river 5;");
            years(x, 24);
            due("at 24", x.lane(), 1);
            years(x, 1);
            due("at 25", x.lane(), 0);
            years(x, 1);
            due("at 26", x.lane(), 0);
            MarriedStreets y = told("lane 1 0 0 0;");
            for (int i = 1; i <= 10; i++) {
                years(y, 20);
            }
            due("the year", y.told(3), 200);
            due("at 200", y.lane(), NONE);
            due("at 200", told("lane 1 0 1 0;").lane(), 1);
        });
        test("Asked, nothing stays changed.", "behind lane() and stop()", () -> {
            MarriedStreets x = rich();
            x.lane();
            x.stop();
            alike("lane() and stop()", x, rich());
        });
    }

    private static void stop() {
        promise(32);
        String words = "STOP: the CORNERS at which its end is in one of these YEARS, from now on, that one too (of 100, if LANE is "
                + "NONE), as bits.";
        test(words, "now alone", () -> {
            String corners = "corner 9 1;corner 8 2;";
            due("it is there", told(corners + "lane 9 1 1 1;river 9;").stop(), 1);
            due("not by Y", told(corners + "lane 9 2 1 1;river 9;").stop(), 0);
            due("not by X", told(corners + "lane 8 1 1 1;river 9;").stop(), 0);
        });
        test(words, "that one too, not the next", () -> {
            String corners = "corner 9 1;corner 8 2;corner 7 3;corner 6 4;";
            due("8", told(corners + "lane 9 1 1 1;river 8;").stop(), 3);
            due("7", told(corners + "lane 9 1 1 1;river 7;").stop(), 7);
            due("0", told(corners + "lane 9 1 1 1;river 0;").stop(), 15);
        });
        test(words, "from now on, not those behind", () -> {
            MarriedStreets x = told("corner 9 1;corner 8 2;corner 7 3;lane 9 1 1 1;river 7;");
            years(x, 1);
            due("at 1", x.stop(), 6);
            years(x, 1);
            due("at 2", x.stop(), 4);
            years(x, 1);
            due("at 3", x.stop(), 0);
        });
        test(words, "several CORNERS at one place, the tenth", () -> {
            due("all ten", told("corner 9 1;".repeat(10) + "lane 9 1 0 0;river 9;").stop(), 1023);
            due("the tenth", told("corner 1 1;".repeat(9) + "corner 9 1;lane 9 1 0 0;").stop(), 512);
        });
        test(words, "of 100, if LANE is NONE", () -> {
            due("where it stays", told("corner 9 9;lane 9 9 0 0;").stop(), 1);
            due("in 60 YEARS", told("corner 9 0;corner 9 1;corner 9 59;corner 9 60;lane 9 0 0 1;").stop(), 15);
            due("in 6 YEARS", told("corner 9 6;corner 9 60;corner 9 53;lane 9 6 0 9;").stop(), 3);
        });
        test(words, "no CORNERS", () -> {
            due("of none", new MarriedStreets().stop(), 0);
            due("of none", told("lane 9 9 0 0;").stop(), 0);
        });
    }
}
