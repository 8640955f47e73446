/** Boundary cases of promise 4: how a LAW is told, and what it says of banns. */
final class LawCases extends Trial {
    private static final String TWO = "corner 0 0;corner 1 1;street 0 1 1 1;street 0 1 1 1;";

    static void all() {
        lawCall();
        lawText();
        lawNumbers();
        lawWords();
        lawOperators();
        lawFaults();
    }

    /** A LAW's value can only be seen by whether it is above 0. */
    private static void lawIs(String city, String law, int value) {
        MarriedStreets x = told(city);
        String less = value < 0 ? " + " + -value : " - " + value;
        due("law(" + law + less + ")", law(x, law + less), 1);
        due(law + " is above " + value, x.banns(0, 1), 0);
        due("law(" + law + less + " + 1)", law(x, law + less + " + 1"), 1);
        due(law + " is above " + value + " less 1", x.banns(0, 1), 3);
    }

    private static void lawFault(String text, int kind, int place) {
        MarriedStreets x = told(sideBySide(2, 1, 1));
        law(x, "1");
        due("law(" + text + ")", law(x, text), kind - 10);
        due("fault() of " + text, x.fault(), place);
        due("count(1) behind " + text, x.count(1), 0);
        due("banns behind " + text, x.banns(0, 1), 3);
    }

    private static void lawCall() {
        promise(4);
        test("Likewise the LAW (n to 150): 1.", "150 bytes, not 151; not below 0, not more than there are", () -> {
            bytes("law", 150, x -> x.law(-1), x -> x.law(LEAST), x -> x.law(MOST), x -> x.law(151));
            refused("law(41)", IAE, x -> x.law(41));
            refused(Trial::richWithoutTape, "law(1)", IAE, x -> x.law(1));
            MarriedStreets x = told(sideBySide(2, 1, 1));
            feed(x, " ".repeat(149) + "1");
            taken(x, "law(150)", 1, y -> y.law(150));
            due("banns", x.banns(0, 1), 3);
            feed(x, "0" + " ".repeat(149));
            taken(x, "law(150)", 1, y -> y.law(150));
            due("banns", x.banns(0, 1), 0);
        });
        test("Likewise the LAW (n to 150): 1.", "it takes the place of the one ahead, the tape is empty", () -> {
            MarriedStreets x = told(sideBySide(2, 1, 1));
            feed(x, "1+1+1+1+1+1;");
            due("law(11)", x.law(11), 1);
            due("count(1)", x.count(1), 0);
            due("banns", x.banns(0, 1), 3);
            due("law", law(x, "0"), 1);
            due("banns", x.banns(0, 1), 0);
            due("law", law(x, "1"), 1);
            due("banns", x.banns(0, 1), 3);
        });
        test("Likewise the LAW (n to 150): 1.", "all but the LAW stays", () -> {
            MarriedStreets x = richWithoutTape();
            due("law", law(x, "hers - 4 - year"), 1);
            alike("law", x, richWithoutTape());
        });
        test("Likewise the LAW (n to 150): 1.", "a FAULT of each kind", () -> {
            faultAlone("law", "hers + ", 1, 7, x -> x.law(7));
            faultAlone("law", "hers + 1000", 2, 7, x -> x.law(11));
            faultAlone("law", "hers+((((((( 1)))))))", 3, 11, x -> x.law(21));
            faultAlone("law", "", 1, 0, x -> x.law(0));
        });
    }

    private static void lawText() {
        promise(4);
        test("A LAW is a text of up to 150 bytes: E, at the end nothing more; without: 0.", "nothing, and more", () -> {
            lawFault("", 1, 0);
            lawFault(" ", 1, 1);
            lawFault("1 1", 1, 2);
            lawFault("1 hers", 1, 2);
            lawFault("1;", 1, 1);
            lawFault("1)", 1, 1);
            lawFault("1 ]", 1, 2);
            lawFault("1,1", 1, 1);
            due("without", told(sideBySide(2, 1, 1)).banns(0, 1), 0);
        });
        test("A LAW is a text of up to 150 bytes: E, at the end nothing more", "as long as can be", () -> {
            lawIs(sideBySide(2, 1, 1), "1" + "+1".repeat(70), 71);
            lawIs(sideBySide(2, 1, 1), "1" + "*1".repeat(70), 1);
            lawIs(sideBySide(2, 1, 1), "1" + "+((((((1))))))".repeat(9), 10);
            lawIs(sideBySide(2, 1, 1), "hers+".repeat(25) + "his", 26);
            MarriedStreets x = told(sideBySide(2, 1, 1));
            due("75 numbers", law(x, "0" + "+0".repeat(73) + "+1 "), 1);
            due("the last counts", x.banns(0, 1), 3);
            due("75 numbers", law(x, "0" + "-0".repeat(73) + "-1 "), 1);
            due("the last counts", x.banns(0, 1), 0);
        });
        test("Banns are REFUSED, if it is above 0.", "1, 0 and -1", () -> {
            MarriedStreets x = told(sideBySide(2, 1, 1));
            law(x, "1");
            due("1", x.banns(0, 1), 3);
            law(x, "0");
            due("0", x.banns(0, 1), 0);
            law(x, "0-1");
            due("-1", x.banns(0, 1), 0);
        });
        test("Banns are REFUSED, if it is above 0.", "the greatest and the least value", () -> {
            MarriedStreets x = told(sideBySide(2, 1, 1));
            law(x, "512*512*512*16-1");
            due("2147483647", x.banns(0, 1), 3);
            law(x, "512*512*512*16");
            due("-2147483648", x.banns(0, 1), 0);
        });
        test("E: T { + or - T }. T: U { * or / U }.", "none, one and more of them", () -> {
            lawIs(TWO, "7", 7);
            lawIs(TWO, "7-2-1", 4);
            lawIs(TWO, "7-2+1", 6);
            lawIs(TWO, "40/4/2", 5);
            lawIs(TWO, "40/4*2", 20);
            lawIs(TWO, "1+2*3-8/4", 5);
            lawIs(TWO, "2*3+4*5", 26);
        });
        test("E: T { + or - T }. T: U { * or / U }.", "what doesn't end or begin so", () -> {
            lawFault("+1", 1, 0);
            lawFault("-1", 1, 0);
            lawFault("*1", 1, 0);
            lawFault("1+", 1, 2);
            lawFault("1*", 1, 2);
            lawFault("1+-1", 1, 2);
            lawFault("1*/1", 1, 2);
            lawFault("1+*1", 1, 2);
            lawFault("1%1", 1, 1);
            lawFault("1/ ", 1, 3);
        });
    }

    private static void lawNumbers() {
        promise(4);
        test("U: N (0 to 999)", "0 and 999, not 1000", () -> {
            lawIs(TWO, "0", 0);
            lawIs(TWO, "999", 999);
            lawIs(TWO, "000000999", 999);
            lawFault("1000", 2, 0);
            lawFault("1+1000", 2, 2);
            lawFault("99999999999999999999", 2, 0);
            lawFault("4294967297", 2, 0);
        });
        test("U: N (0 to 999)", "0 is 0 and 1 is 1, whatever the STREETS are", () -> {
            MarriedStreets x = told(sideBySide(2, 20, 20));
            work(x, "year;marry 0 1;quarrel 0;part 0;");
            law(x, "0");
            due("0", x.banns(0, 1), 0);
            law(x, "1 - 1");
            due("1 less 1", x.banns(0, 1), 0);
            law(x, "1");
            due("1", x.banns(0, 1), 3);
        });
        test("Values are whole numbers of 32 bits that wrap", "by + beyond the greatest", () -> {
            MarriedStreets x = told(sideBySide(2, 1, 1));
            law(x, "(512*512*512*16-1)+1");
            due("wrapped below 0", x.banns(0, 1), 0);
            law(x, "(512*512*512*16-1)+1-1");
            due("and back", x.banns(0, 1), 3);
        });
        test("Values are whole numbers of 32 bits that wrap", "by - beyond the least", () -> {
            MarriedStreets x = told(sideBySide(2, 1, 1));
            law(x, "0-512*512*512*16-1");
            due("wrapped above 0", x.banns(0, 1), 3);
            law(x, "0-512*512*512*16");
            due("the least is its own counterpart", x.banns(0, 1), 0);
        });
        test("Values are whole numbers of 32 bits that wrap", "by *", () -> {
            lawIs(TWO, "512*512*512*32", 0);
            lawIs(TWO, "512*512*512*32+3", 3);
            lawIs(TWO, "512*512*512*16*2", 0);
            MarriedStreets x = told(sideBySide(2, 1, 1));
            law(x, "512*512*512*24");
            due("3 times 2 to the 30th", x.banns(0, 1), 0);
        });
        test("/ cuts, by 0 it is 0", "toward 0, above and below", () -> {
            lawIs(TWO, "7/2", 3);
            lawIs(TWO, "(0-7)/2", -3);
            lawIs(TWO, "7/(0-2)", -3);
            lawIs(TWO, "(0-7)/(0-2)", 3);
            lawIs(TWO, "1/2", 0);
            lawIs(TWO, "(0-1)/2", 0);
            lawIs(TWO, "6/6", 1);
        });
        test("/ cuts, by 0 it is 0", "by 0", () -> {
            lawIs(TWO, "7/0", 0);
            lawIs(TWO, "0/0", 0);
            lawIs(TWO, "(0-7)/(1-1)", 0);
            lawIs(TWO, "7/0+5", 5);
            lawIs(TWO, "year/year", 0);
        });
        test("/ cuts, by 0 it is 0", "the least by -1 wraps", () -> {
            MarriedStreets x = told(sideBySide(2, 1, 1));
            law(x, "512*512*512*16/(0-1)");
            due("still the least", x.banns(0, 1), 0);
            law(x, "512*512*512*16/(0-1)-1");
            due("less 1 the greatest", x.banns(0, 1), 3);
        });
    }

    private static void lawWords() {
        promise(4);
        String city = "corner 0 0;corner 3 0;corner 3 4;street 0 1 20 20;street 1 2 1 0;likes 0 1 9;likes 1 0 0;";
        test("\"hers\" (houses of the first told STREET), \"his\" (of the other one)", "1 and 20 houses", () -> {
            lawIs(city, "hers", 20);
            lawIs(city, "his", 1);
            MarriedStreets x = told(city);
            law(x, "hers - 19");
            due("the first told as she", x.banns(0, 1), 3);
            due("the other one as she", x.banns(1, 0), 0);
        });
        test("\"trees\" (of both now)", "20 and 0, and as they are then", () -> {
            lawIs(city, "trees", 20);
            MarriedStreets x = told(city);
            work(x, "plant 1 9;");
            law(x, "trees - 28");
            due("29 now", x.banns(0, 1), 3);
            x.undo();
            due("20 again", x.banns(0, 1), 0);
            work(x, "again 18[plant 0 9;plant 1 9;];plant 1 9;plant 1 9;");
            law(x, "trees - 197");
            due("198 at most", x.banns(0, 1), 3);
            law(x, "trees - 198");
            due("198 at most", x.banns(0, 1), 0);
        });
        test("\"likes\" (by how much she likes him), \"liked\" (he her)", "9, 0 and 5 without", () -> {
            lawIs(city, "likes", 9);
            lawIs(city, "liked", 0);
            lawIs(sideBySide(2, 1, 1), "likes", 5);
            lawIs(sideBySide(2, 1, 1), "liked", 5);
        });
        test("\"cross\" (how many CORNERS both have in common)", "0, 1 and 2, either way round", () -> {
            String four = "corner 0 0;corner 0 0;corner 0 0;corner 0 0;street 0 1 1 1;";
            lawIs(four + "street 2 3 1 1;", "cross", 0);
            lawIs(four + "street 1 2 1 1;", "cross", 1);
            lawIs(four + "street 2 1 1 1;", "cross", 1);
            lawIs(four + "street 0 2 1 1;", "cross", 1);
            lawIs(four + "street 2 0 1 1;", "cross", 1);
            lawIs(four + "street 0 1 1 1;", "cross", 2);
            lawIs(four + "street 1 0 1 1;", "cross", 2);
        });
        test("\"length\" (of both)", "0 and 240", () -> {
            lawIs("corner 7 7;corner 7 7;street 0 1 1 1;street 1 0 1 1;", "length", 0);
            lawIs("corner 0 0;corner 60 60;street 0 1 1 1;street 1 0 1 1;", "length", 240);
            lawIs(city, "length", 7);
        });
        test("\"year\" (now)", "0, 1 and 200", () -> {
            lawIs(city, "year", 0);
            MarriedStreets x = told(city);
            law(x, "year");
            due("0", x.banns(0, 1), 0);
            work(x, "year;");
            due("1", x.banns(0, 1), 3);
            work(x, "again 19[again 9[year;];];");
            work(x, "again 20[year;];again 8[year;];");
            law(x, "year - 199");
            due("200", x.told(3), 200);
            due("200", x.banns(0, 1), 3);
            law(x, "year - 200");
            due("200", x.banns(0, 1), 0);
        });
        test("\"holes\" (of both now)", "0 to 18", () -> {
            lawIs(city, "holes", 0);
            MarriedStreets x = told(city);
            work(x, "marry 0 1;again 9[quarrel 0;];part 0;");
            law(x, "holes - 17");
            due("18", x.banns(0, 1), 3);
            law(x, "holes - 18");
            due("18", x.banns(0, 1), 0);
            work(x, "repave 0;");
            law(x, "holes - 8");
            due("9", x.banns(0, 1), 3);
        });
    }

    private static void lawOperators() {
        promise(4);
        test("\"least\" \"[\" E \",\" E \"]\"", "the first, the second, alike", () -> {
            lawIs(TWO, "least[2,3]", 2);
            lawIs(TWO, "least[3,2]", 2);
            lawIs(TWO, "least[2,2]", 2);
            lawIs(TWO, "least[0-3,0-2]", -3);
            lawIs(TWO, "least[1+1,2*3]*2", 4);
            lawFault("least[1]", 1, 7);
            lawFault("least[1,2,3]", 1, 9);
            lawFault("least[1,]", 1, 8);
            lawFault("least[,1]", 1, 6);
            lawFault("least[]", 1, 6);
            lawFault("least(1,2)", 1, 5);
            lawFault("least", 1, 5);
            lawFault("least[1,2", 1, 9);
            lawFault("least[1,2)", 1, 9);
        });
        test("\"most\" \"[\" E \",\" E \"]\"", "the first, the second, alike", () -> {
            lawIs(TWO, "most[2,3]", 3);
            lawIs(TWO, "most[3,2]", 3);
            lawIs(TWO, "most[3,3]", 3);
            lawIs(TWO, "most[0-3,0-2]", -2);
            lawFault("most[1]", 1, 6);
            lawFault("most 1,2]", 1, 5);
            lawFault("most[1;2]", 1, 6);
        });
        test("or \"(\" E \")\"", "ahead of * and /, and none within", () -> {
            lawIs(TWO, "(1+2)*3", 9);
            lawIs(TWO, "9-(3-2)", 8);
            lawIs(TWO, "((((((1))))))", 1);
            lawIs(TWO, "(((((1)))))+((((((1))))))", 2);
            lawFault("()", 1, 1);
            lawFault("(1", 1, 2);
            lawFault("(1]", 1, 2);
            lawFault("(1,1)", 1, 2);
            lawFault("[1]", 1, 0);
        });
        test("WORDS: small letters, as many as stand there", "in a LAW", () -> {
            lawFault("her", 1, 0);
            lawFault("herss", 1, 0);
            lawFault("hershis", 1, 0);
            lawFault("Hers", 1, 0);
            lawFault("hers1", 1, 4);
            lawFault("1hers", 1, 1);
            lawFault("never", 1, 0);
            lawFault("like", 1, 0);
            lawFault("likesliked", 1, 0);
        });
        test("blanks (32) may stand ahead of all these, and at the end", "in a LAW", () -> {
            lawIs(TWO, "  ( 1 + 2 ) * least [ 3 , 4 ] / 1  ", 9);
            lawFault("le ast[1,1]", 1, 0);
            lawFault("1 0", 1, 2);
            lawFault("1\t+1", 1, 1);
        });
    }

    private static void lawFaults() {
        promise(4);
        test("a 7th of ( least most again that is open at one time", "six of (, and the seventh", () -> {
            MarriedStreets x = told(sideBySide(2, 1, 1));
            due("six", law(x, "((((((1))))))"), 1);
            lawFault("(((((((1)))))))", 3, 6);
            lawFault("((((((1+(1))))))", 3, 8);
            lawFault("((((((  (", 3, 8);
        });
        test("a 7th of ( least most again that is open at one time", "six of least and most, and the seventh", () -> {
            MarriedStreets x = told(sideBySide(2, 1, 1));
            due("six", law(x, "least[1,most[1,least[1,most[1,least[1,most[1,1]]]]]]"), 1);
            due("six", law(x, "most[least[most[least[most[least[1,1],1],1],1],1],1]"), 1);
            lawFault("least[1,most[1,least[1,most[1,least[1,most[1,least[1,1]]]]]]]", 3, 45);
            lawFault("most[least[most[least[most[least[most", 3, 33);
        });
        test("a 7th of ( least most again that is open at one time", "of all together", () -> {
            MarriedStreets x = told(sideBySide(2, 1, 1));
            due("six", law(x, "(least[(most[(least[1,1]),1]),1])"), 1);
            lawFault("(least[(most[(least[(1),1]),1]),1])", 3, 20);
            lawFault("(least[(most[(least[1,(1)]),1]),1])", 3, 22);
            due("those that are shut don't count", law(x, "((((((1))))))*((((((1))))))-least[((((1)))),((((1))))]"), 1);
        });
        test("of one the least", "a seventh word that is none", () -> {
            lawFault("((((((leastx", 1, 6);
            lawFault("((((((1000", 2, 6);
            lawFault("(((((()", 1, 6);
            lawFault("((((((least", 3, 6);
            lawFault("((((((most(", 3, 6);
        });
        test("1 what can't stand there (at the length, if the text ends too early)", "in a LAW", () -> {
            lawFault("(", 1, 1);
            lawFault("least[1", 1, 7);
            lawFault("1+ ", 1, 3);
            lawFault("1+" + " ".repeat(148), 1, 150);
            lawFault(" ".repeat(149) + "x", 1, 149);
        });
        test("FAULTS, the first from the left, at its first byte", "in a LAW", () -> {
            lawFault("1000 + x", 2, 0);
            lawFault("x + 1000", 1, 0);
            lawFault("1 + 0001000", 2, 4);
            lawFault("(((((((1000", 3, 6);
        });
    }
}
