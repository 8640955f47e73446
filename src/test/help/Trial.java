import java.io.IOException;
import java.nio.file.Files;
import java.nio.file.Path;
import java.util.ArrayList;
import java.util.List;
import java.util.TreeMap;
import java.util.Map;
import java.util.function.IntSupplier;

/**
 * What the boundary tests have in common. Each test is of one promise and quotes the words of the document that it
 * looks after; Trial looks whether those words stand there.
 */
abstract class Trial {
    static final int NONE = -1;
    static final String IOOBE = "IndexOutOfBoundsException";
    static final String NSEE = "NoSuchElementException";
    static final String IAE = "IllegalArgumentException";
    static final int LEAST = Integer.MIN_VALUE;
    static final int MOST = Integer.MAX_VALUE;

    /** A street of 3 houses and 5 trees, one of 5 and 2, one of 2 and 9; what they like, and all else that can be told. */
    static final String RICH = "corner 0 0;corner 4 0;corner 4 3;corner 9 9;street 0 1 3 5;street 1 2 5 2;street 0 2 2 9;"
            + "likes 0 2 8;likes 2 0 7;likes 1 0 3;never 1 2;good 6 3;good 2 6;lane 50 1 3 2;river 20;";

    interface Call {
        int on(MarriedStreets x);
    }

    interface Maker {
        MarriedStreets make();
    }

    private static final Map<Integer, Integer> TESTS = new TreeMap<>();
    private static final List<String> QUOTES = new ArrayList<>();
    private static final String DOCUMENT = document();
    private static int promise;
    private static String test = "";
    private static int answers;
    private static int wrong;

    // ---- the tests and what they quote

    static void promise(int number) {
        promise = number;
    }

    /** The words are the document's own; the case says which boundary of theirs is looked at. */
    static void test(String words, String boundary, Runnable body) {
        test = "promise " + promise + ", \"" + words + "\", " + boundary;
        TESTS.merge(promise, 1, Integer::sum);
        QUOTES.add(words);
        if (!DOCUMENT.isEmpty() && !DOCUMENT.contains(words)) {
            wrong("the document doesn't say so");
        }
        try {
            body.run();
        } catch (RuntimeException e) {
            wrong("ended by " + e);
        }
    }

    static void due(String call, int got, int want) {
        due(call, String.valueOf(got), String.valueOf(want));
    }

    static void due(String call, String got, String want) {
        answers++;
        if (!got.equals(want)) {
            wrong(call + " answered " + got + ", due is " + want);
        }
    }

    private static void wrong(String what) {
        wrong++;
        System.out.println(test + ": " + what);
    }

    /** Every promise must have tests; answers whether all is well. */
    static boolean allIsWell(String name) {
        test = name;
        for (int number = 1; number <= 41; number++) {
            if (!TESTS.containsKey(number)) {
                wrong("promise " + number + " has no test");
            }
        }
        int many = TESTS.values().stream().mapToInt(Integer::intValue).sum();
        System.out.println(name + ": " + many + " tests, " + answers + " answers looked at, " + wrong + " wrong");
        return wrong == 0;
    }

    /** The document's words that no test quotes, for who writes tests. */
    static List<String> unquoted() {
        boolean[] quoted = new boolean[DOCUMENT.length()];
        for (String words : QUOTES) {
            for (int at = DOCUMENT.indexOf(words); at >= 0; at = DOCUMENT.indexOf(words, at + 1)) {
                java.util.Arrays.fill(quoted, at, at + words.length(), true);
            }
        }
        List<String> left = new ArrayList<>();
        int from = DOCUMENT.indexOf("## Terms");
        for (int i = from; i >= 0 && i < DOCUMENT.length(); i++) {
            int start = i;
            while (i < DOCUMENT.length() && !quoted[i]) {
                i++;
            }
            if (i > start && DOCUMENT.substring(start, i).matches(".*\\w.*")) {
                left.add(DOCUMENT.substring(start, i));
            }
        }
        return left;
    }

    private static String document() {
        String home = System.getenv("MARRIED_STREETS_HOME");
        try {
            return Files.readString(Path.of(home == null ? "." : home, "../shared/DOC.md")).replaceAll("\\s+", " ");
        } catch (IOException e) {
            System.out.println("DOC.md can't be read, so the quotes are not looked up: " + e);
            return "";
        }
    }

    // ---- telling texts

    /** So many bytes come on the tape, twenty by twenty; behind the text zeros. */
    static void feed(MarriedStreets x, String text) {
        for (int at = 0; at < text.length(); at += 20) {
            int[] five = new int[5];
            for (int i = 0; i < 20; i++) {
                five[i / 4] = five[i / 4] << 8 | (at + i < text.length() ? text.charAt(at + i) & 255 : 0);
            }
            x.feed(five[0], five[1], five[2], five[3], five[4]);
        }
    }

    static int city(MarriedStreets x, String text) {
        feed(x, text);
        return x.city(text.length());
    }

    static int law(MarriedStreets x, String text) {
        feed(x, text);
        return x.law(text.length());
    }

    static int work(MarriedStreets x, String text) {
        feed(x, text);
        return x.work(text.length());
    }

    static int post(MarriedStreets x, String text) {
        feed(x, text);
        return x.post(text.length());
    }

    /** A new object with a CITY. */
    static MarriedStreets told(String text) {
        MarriedStreets x = new MarriedStreets();
        int answer = city(x, text);
        if (answer < 0) {
            wrong("the test's own city has the fault " + answer + " at " + x.fault() + ": " + text);
        }
        return x;
    }

    /** So many streets side by side from 0 0 to 1 0. */
    static String sideBySide(int many, int houses, int trees) {
        return "corner 0 0;corner 1 0;" + ("street 0 1 " + houses + " " + trees + ";").repeat(many);
    }

    /** An object in which all that can be kept is kept: a LAW, a POST, two WORKS, an IMAGE, a FAULT and a tape. */
    static MarriedStreets rich() {
        MarriedStreets x = richWithoutTape();
        feed(x, "river 9;lane 50 1 2 3;");
        return x;
    }

    static MarriedStreets richWithoutTape() {
        MarriedStreets x = told(RICH);
        law(x, "hers - 4 - year");
        post(x, "1 1;4 0;");
        work(x, "marry 0 1;quarrel 1;year;plant 2 3;marry 0 2;part 0;marry 0 2;");
        x.image();
        work(x, "quarrel 2;year;part 1;plant 1 9;");
        post(x, "40 1;x");
        return x;
    }

    // ---- refusals

    static String outcome(IntSupplier call) {
        try {
            return String.valueOf(call.getAsInt());
        } catch (RuntimeException e) {
            return e.getClass().getSimpleName();
        }
    }

    /** The call throws just that, which is counted once, and all else is as with a twin that wasn't asked. */
    static void refused(Maker maker, String name, String exception, Call call) {
        MarriedStreets x = maker.make();
        MarriedStreets twin = maker.make();
        due(name, outcome(() -> call.on(x)), exception);
        String[] counted = {IOOBE, NSEE, IAE};
        for (int what = 0; what < 3; what++) {
            int more = counted[what].equals(exception) ? 1 : 0;
            due("status(" + what + ") behind " + name, x.status(what), twin.status(what) + more);
        }
        due("fault() behind " + name, x.fault(), twin.fault());
        alike(name, x, twin);
    }

    static void refused(String name, String exception, Call call) {
        refused(Trial::rich, name, exception, call);
    }

    /** The call is answered, and nothing is counted as refused. */
    static void taken(MarriedStreets x, String name, int want, Call call) {
        int before = x.status(0) + x.status(1) + x.status(2);
        due(name, outcome(() -> call.on(x)), String.valueOf(want));
        due("refusals behind " + name, x.status(0) + x.status(1) + x.status(2), before);
    }

    /** The call is answered, whatever the answer. */
    static void taken(MarriedStreets x, String name, Call call) {
        due(name + " is answered", outcome(() -> call.on(x)).matches("-?\\d+") ? 1 : 0, 1);
    }

    // ---- twins

    /** That two objects are alike in all but status and the FAULT, to the WORKS, the IMAGES and the tape within them. */
    static void alike(String call, MarriedStreets x, MarriedStreets twin) {
        same(call, answers(x, true), answers(twin, true));
        for (int i = 0; i < 3; i++) {
            due("undo() behind " + call, x.undo(), twin.undo());
            same(call + " and undo()", answers(x, false), answers(twin, false));
        }
        due("restore() behind " + call, x.restore(), twin.restore());
        same(call + " and restore()", answers(x, false), answers(twin, false));
        due("undo() behind restore() behind " + call, x.undo(), twin.undo());
        same(call + ", restore() and undo()", answers(x, false), answers(twin, false));
        int taped = Math.min(22, x.count(1));
        due("the tape behind " + call, x.city(taped), twin.city(taped));
        due("fault of the tape behind " + call, x.fault(), twin.fault());
        due("lane of the tape behind " + call, x.lane(), twin.lane());
    }

    private static void same(String call, List<String> got, List<String> want) {
        answers++;
        for (int i = 0; i < Math.min(got.size(), want.size()); i++) {
            if (!got.get(i).equals(want.get(i))) {
                wrong("behind " + call + " is " + got.get(i) + ", due is " + want.get(i));
                return;
            }
        }
        if (got.size() != want.size()) {
            wrong("behind " + call + " are other streets than due");
        }
    }

    /** What an object answers, so far as it changes; whole with what follows from the LAW and the POST. */
    static List<String> answers(MarriedStreets x, boolean whole) {
        List<String> all = new ArrayList<>();
        for (int what = 0; what <= 9; what++) {
            all.add("told(" + what + ") " + x.told(what));
        }
        for (int what = 0; what <= 2; what++) {
            all.add("count(" + what + ") " + x.count(what));
        }
        int streets = Math.min(3, x.told(1));
        for (int s = 0; s < streets; s++) {
            for (int what = whole ? 0 : 3; what <= 8; what++) {
                all.add("street(" + s + ", " + what + ") " + x.street(s, what));
            }
            if (whole) {
                addWhole(all, x, s, streets);
            }
        }
        if (whole) {
            all.add("even() " + x.even());
            all.add("lane() " + x.lane());
            all.add("stop() " + x.stop());
        }
        return all;
    }

    private static void addWhole(List<String> all, MarriedStreets x, int s, int streets) {
        for (int other = 0; other < streets; other++) {
            all.add("banns(" + s + ", " + other + ") " + x.banns(s, other));
            if (other != s) {
                all.add("likes(" + s + ", " + other + ") " + x.likes(s, other));
            }
        }
        all.add("mates(" + s + ", 0) " + x.mates(s, 0));
        all.add("look(" + s + ", 0) " + x.look(s, 0));
        all.add("right(" + s + ") " + x.right(s));
    }

    // ---- texts that are not taken

    /** A FAULT of each kind leaves all as it was, but the tape. */
    static void faultAlone(String name, String text, int kind, int place, Call tell) {
        MarriedStreets x = richWithoutTape();
        feed(x, text);
        due(name + " of " + text, tell.on(x), kind - 10);
        due("fault() of " + text, x.fault(), place);
        due("count(1) behind " + text, x.count(1), 0);
        MarriedStreets twin = richWithoutTape();
        for (int what = 0; what <= 2; what++) {
            due("status(" + what + ") behind " + text, x.status(what), twin.status(what));
        }
        alike(name + " of " + text, x, twin);
    }

    /** How many bytes the call takes, and how many not: the tape stays then. */
    static void bytes(String name, int most, Call least, Call none, Call all, Call more) {
        Maker full = () -> {
            MarriedStreets x = richWithoutTape();
            feed(x, "river 9;lane 50 1 2 3;" + " ".repeat(most - 2));
            return x;
        };
        refused(full, name + "(-1)", IAE, least);
        refused(full, name + "(-2147483648)", IAE, none);
        refused(full, name + "(2147483647)", IAE, all);
        refused(full, name + "(" + (most + 1) + ")", IAE, more);
    }
}
