import java.util.ArrayDeque;
import java.util.ArrayList;
import java.util.Arrays;
import java.util.HashMap;
import java.util.HashSet;
import java.util.List;
import java.util.Map;
import java.util.PriorityQueue;
import java.util.Random;
import java.util.Set;
import java.util.TreeMap;

/** Long runs of calls, by seeds, on the class and on a second one that is written from the document in another way. */
public final class ModelTest {
    private static final int RUNS = 1500;
    private static final int CALLS = 260;

    /** A FAULT as it is found: the texts of the model are read by methods that throw it. */
    private static final class Fault extends Exception {
        private static final long serialVersionUID = 1;
        final int kind;
        final int place;

        Fault(int kind, int place) {
            this.kind = kind;
            this.place = place;
        }
    }

    private static final class Token {
        final String text;
        final int place;

        Token(String text, int place) {
            this.text = text;
            this.place = place;
        }

        boolean isNumber() {
            return !text.isEmpty() && Character.isDigit(text.charAt(0));
        }

        boolean isWord() {
            return !text.isEmpty() && text.charAt(0) >= 'a' && text.charAt(0) <= 'z';
        }
    }

    /** All tokens of a text ahead of its reading; the end is one without signs. */
    private static final class Tokens {
        final List<Token> all = new ArrayList<>();
        int at = 0;

        Tokens(String s) {
            int i = 0;
            while (i < s.length()) {
                char c = s.charAt(i);
                int j = i + 1;
                if (c == ' ') {
                    i++;
                    continue;
                }
                if (c >= '0' && c <= '9') {
                    while (j < s.length() && s.charAt(j) >= '0' && s.charAt(j) <= '9') {
                        j++;
                    }
                } else if (c >= 'a' && c <= 'z') {
                    while (j < s.length() && s.charAt(j) >= 'a' && s.charAt(j) <= 'z') {
                        j++;
                    }
                }
                all.add(new Token(s.substring(i, j), i));
                i = j;
            }
            all.add(new Token("", s.length()));
        }

        Token peek() {
            return all.get(at);
        }

        boolean isEnd() {
            return peek().text.isEmpty();
        }

        void sign(String sign) throws Fault {
            if (!peek().text.equals(sign)) {
                throw new Fault(1, peek().place);
            }
            at++;
        }

        int number(int least, int most, Set<Integer> but) throws Fault {
            Token t = peek();
            if (!t.isNumber()) {
                throw new Fault(1, t.place);
            }
            java.math.BigInteger big = new java.math.BigInteger(t.text);
            int value = big.bitLength() > 30 ? 1 << 30 : big.intValue();
            if (value < least || value > most || but.contains(value)) {
                throw new Fault(2, t.place);
            }
            at++;
            return value;
        }

        int number(int least, int most) throws Fault {
            return number(least, most, Set.of());
        }
    }

    private static final class Way {
        int a;
        int b;
        int houses;
        int trees;
        int holes;
        Way mate;
        boolean she;
        int years;

        Way copy() {
            Way w = new Way();
            w.a = a;
            w.b = b;
            w.houses = houses;
            w.trees = trees;
            w.holes = holes;
            w.she = she;
            w.years = years;
            return w;
        }
    }

    /** What changes. */
    private static final class World {
        List<Way> ways = new ArrayList<>();
        int year;
        int parted;

        World copy() {
            World w = new World();
            w.year = year;
            w.parted = parted;
            for (Way one : ways) {
                w.ways.add(one.copy());
            }
            for (int i = 0; i < ways.size(); i++) {
                if (ways.get(i).mate != null) {
                    w.ways.get(i).mate = w.ways.get(ways.indexOf(ways.get(i).mate));
                }
            }
            return w;
        }

        void part(Way one) {
            Way she = one.she ? one : one.mate;
            Way he = she.mate;
            int sum = she.trees + he.trees;
            he.trees = sum / 2;
            she.trees = (sum + 1) / 2;
            she.mate = null;
            he.mate = null;
            she.she = false;
            she.years = 0;
            he.years = 0;
            parted++;
        }

        boolean quarrel(Way one) {
            if (one.mate == null || one.holes == 9 && one.mate.holes == 9) {
                return false;
            }
            one.holes = one.holes == 9 ? 9 : one.holes + 1;
            one.mate.holes = one.mate.holes == 9 ? 9 : one.mate.holes + 1;
            return true;
        }

        boolean turn() {
            if (year == 200) {
                return false;
            }
            year++;
            for (Way one : ways) {
                if (one.mate != null) {
                    one.years++;
                    if (List.of(25, 50, 75, 100, 125, 150, 175, 200).contains(one.years)) {
                        one.holes = 0;
                    }
                }
            }
            for (Way one : ways) {
                if (one.mate != null && one.holes + one.mate.holes > 9) {
                    part(one);
                }
            }
            return true;
        }

        int couples() {
            int n = 0;
            for (Way one : ways) {
                n += one.mate == null ? 0 : 1;
            }
            return n / 2;
        }

        int holes() {
            int n = 0;
            for (Way one : ways) {
                n += one.holes;
            }
            return n;
        }
    }

    private interface Expr {
        int of(int she, int he);
    }

    private interface Step {
        void run();
    }

    private static final class Image {
        World world;
        ArrayDeque<World> works;
    }

    /** The document once more, with the library's collections and without care for speed. */
    private static final class Model {
        StringBuilder tape = new StringBuilder();
        List<int[]> corners = new ArrayList<>();
        List<int[]> goods = new ArrayList<>();
        Map<String, Integer> likings = new HashMap<>();
        Set<String> nevers = new HashSet<>();
        int[] lane = {30, 0, 1, 0};
        int river = 0;
        World world = new World();
        Expr law = (a, b) -> 0;
        List<int[]> post = new ArrayList<>();
        ArrayDeque<World> works = new ArrayDeque<>();
        ArrayDeque<Image> images = new ArrayDeque<>();
        int faultAt = -1;
        int refusedSteps = 0;
        int[] status = new int[3];
        int begun;
        int done;
        int refused;

        // -- texts

        String take(int n, int most) {
            if (n < 0 || n > tape.length() || n > most) {
                throw iae();
            }
            String s = tape.substring(0, n);
            tape.setLength(0);
            faultAt = -1;
            return s;
        }

        IllegalArgumentException iae() {
            status[2]++;
            return new IllegalArgumentException();
        }

        void corner(int c) {
            if (c < 0 || c >= corners.size()) {
                status[1]++;
                throw new java.util.NoSuchElementException();
            }
        }

        void street(int s) {
            if (s < 0 || s >= world.ways.size()) {
                status[1]++;
                throw new java.util.NoSuchElementException();
            }
        }

        void what(int what, int most) {
            range(what, 0, most);
        }

        void range(int value, int least, int most) {
            if (value < least || value > most) {
                throw iae();
            }
        }

        int fault(Fault f) {
            faultAt = f.place;
            return f.kind - 10;
        }

        int feed(int[] five) {
            if (tape.length() > 580) {
                return -1;
            }
            for (int n : five) {
                for (byte b : java.nio.ByteBuffer.allocate(4).putInt(n).array()) {
                    tape.append((char) (b & 255));
                }
            }
            return tape.length();
        }

        int city(int n) {
            String s = take(n, 600);
            Model m = new Model();
            try {
                m.readCity(new Tokens(s));
            } catch (Fault f) {
                return fault(f);
            }
            corners = m.corners;
            goods = m.goods;
            likings = m.likings;
            nevers = m.nevers;
            lane = m.lane;
            river = m.river;
            world = m.world;
            law = (a, b) -> 0;
            post = new ArrayList<>();
            works.clear();
            images.clear();
            refusedSteps = 0;
            return world.ways.size();
        }

        void readCity(Tokens t) throws Fault {
            int clauses = 0;
            while (!t.isEnd()) {
                Token word = t.peek();
                if (!List.of("corner", "street", "likes", "never", "good", "lane", "river").contains(word.text)) {
                    throw new Fault(1, word.place);
                }
                clauses++;
                boolean full = clauses > 60 || word.text.equals("corner") && corners.size() == 10
                        || word.text.equals("street") && world.ways.size() == 8
                        || word.text.equals("good") && goods.size() == 8;
                if (full) {
                    throw new Fault(3, word.place);
                }
                t.at++;
                clause(t, word.text);
                t.sign(";");
            }
        }

        void clause(Tokens t, String word) throws Fault {
            int streets = world.ways.size();
            if (word.equals("corner")) {
                corners.add(new int[] {t.number(0, 60), t.number(0, 60)});
            } else if (word.equals("street")) {
                Way w = new Way();
                w.a = t.number(0, corners.size() - 1);
                w.b = t.number(0, corners.size() - 1, Set.of(w.a));
                w.houses = t.number(1, 20);
                w.trees = t.number(0, 20);
                world.ways.add(w);
            } else if (word.equals("likes")) {
                int s = t.number(0, streets - 1);
                int r = t.number(0, streets - 1, Set.of(s));
                likings.put(s + ">" + r, t.number(0, 9));
            } else if (word.equals("never")) {
                int s = t.number(0, streets - 1);
                int r = t.number(0, streets - 1, Set.of(s));
                nevers.add(Math.min(s, r) + "+" + Math.max(s, r));
            } else if (word.equals("good")) {
                goods.add(new int[] {t.number(0, 9), t.number(0, 9)});
            } else if (word.equals("lane")) {
                lane = new int[] {t.number(0, 60), t.number(0, 60), t.number(0, 9), t.number(0, 9)};
            } else {
                river = t.number(0, 60);
            }
        }

        int law(int n) {
            String s = take(n, 150);
            try {
                Tokens t = new Tokens(s);
                Expr e = sum(t, 0);
                if (!t.isEnd()) {
                    throw new Fault(1, t.peek().place);
                }
                law = e;
                return 1;
            } catch (Fault f) {
                return fault(f);
            }
        }

        Expr sum(Tokens t, int open) throws Fault {
            Expr left = product(t, open);
            while (t.peek().text.equals("+") || t.peek().text.equals("-")) {
                boolean plus = t.peek().text.equals("+");
                t.at++;
                Expr a = left;
                Expr b = product(t, open);
                left = plus ? (s, h) -> a.of(s, h) + b.of(s, h) : (s, h) -> a.of(s, h) - b.of(s, h);
            }
            return left;
        }

        Expr product(Tokens t, int open) throws Fault {
            Expr left = unit(t, open);
            while (t.peek().text.equals("*") || t.peek().text.equals("/")) {
                boolean by = t.peek().text.equals("/");
                t.at++;
                Expr a = left;
                Expr b = unit(t, open);
                left = by ? (s, h) -> b.of(s, h) == 0 ? 0 : (int) ((long) a.of(s, h) / b.of(s, h))
                        : (s, h) -> (int) ((long) a.of(s, h) * b.of(s, h));
            }
            return left;
        }

        Expr unit(Tokens t, int open) throws Fault {
            Token k = t.peek();
            if (k.isNumber()) {
                int n = t.number(0, 999);
                return (s, h) -> n;
            }
            Map<String, Expr> facts = new HashMap<>();
            facts.put("hers", (s, h) -> way(s).houses);
            facts.put("his", (s, h) -> way(h).houses);
            facts.put("trees", (s, h) -> way(s).trees + way(h).trees);
            facts.put("likes", (s, h) -> liking(s, h));
            facts.put("liked", (s, h) -> liking(h, s));
            facts.put("cross", (s, h) -> {
                Set<Integer> both = new HashSet<>(List.of(way(s).a, way(s).b));
                both.retainAll(Set.of(way(h).a, way(h).b));
                return both.size();
            });
            facts.put("length", (s, h) -> length(s) + length(h));
            facts.put("year", (s, h) -> world.year);
            facts.put("holes", (s, h) -> way(s).holes + way(h).holes);
            if (facts.containsKey(k.text)) {
                t.at++;
                return facts.get(k.text);
            }
            if (!List.of("(", "least", "most").contains(k.text)) {
                throw new Fault(1, k.place);
            }
            if (open == 6) {
                throw new Fault(3, k.place);
            }
            t.at++;
            if (k.text.equals("(")) {
                Expr e = sum(t, open + 1);
                t.sign(")");
                return e;
            }
            t.sign("[");
            Expr a = sum(t, open + 1);
            t.sign(",");
            Expr b = sum(t, open + 1);
            t.sign("]");
            return k.text.equals("least") ? (s, h) -> Math.min(a.of(s, h), b.of(s, h))
                    : (s, h) -> Math.max(a.of(s, h), b.of(s, h));
        }

        int work(int n) {
            String s = take(n, 150);
            if (works.size() == 16) {
                return -20;
            }
            List<Step> steps;
            try {
                Tokens t = new Tokens(s);
                steps = steps(t, 0);
            } catch (Fault f) {
                return fault(f);
            }
            works.push(world.copy());
            begun = 0;
            done = 0;
            refused = 0;
            runAll(steps);
            refusedSteps = refused;
            return done;
        }

        void runAll(List<Step> steps) {
            for (Step s : steps) {
                if (begun == 200) {
                    return;
                }
                begun++;
                s.run();
            }
        }

        void note(boolean wasDone) {
            if (wasDone) {
                done++;
            } else {
                refused++;
            }
        }

        List<Step> steps(Tokens t, int open) throws Fault {
            List<Step> steps = new ArrayList<>();
            while (!(open == 0 ? t.isEnd() : t.peek().text.equals("]"))) {
                steps.add(step(t, open));
                t.sign(";");
            }
            return steps;
        }

        Step step(Tokens t, int open) throws Fault {
            Token word = t.peek();
            t.at++;
            int last = world.ways.size() - 1;
            switch (word.text) {
                case "marry": {
                    int s = t.number(0, last);
                    int r = t.number(0, last);
                    return () -> note(marry(s, r));
                }
                case "part": {
                    int s = t.number(0, last);
                    return () -> {
                        note(way(s).mate != null);
                        if (way(s).mate != null) {
                            world.part(way(s));
                        }
                    };
                }
                case "plant": {
                    int s = t.number(0, last);
                    int n = t.number(1, 9);
                    return () -> {
                        note(way(s).trees < 99);
                        way(s).trees = Math.min(99, way(s).trees + n);
                    };
                }
                case "quarrel": {
                    int s = t.number(0, last);
                    return () -> note(world.quarrel(way(s)));
                }
                case "repave": {
                    int s = t.number(0, last);
                    return () -> {
                        List<Way> both = way(s).mate == null ? List.of(way(s)) : List.of(way(s), way(s).mate);
                        note(both.stream().anyMatch(w -> w.holes > 0));
                        both.forEach(w -> w.holes = 0);
                    };
                }
                case "year":
                    return () -> note(world.turn());
                case "again": {
                    if (open == 6) {
                        throw new Fault(3, word.place);
                    }
                    int n = t.number(0, 20);
                    t.sign("[");
                    List<Step> own = steps(t, open + 1);
                    t.sign("]");
                    return () -> {
                        for (int i = 0; i < n && begun < 200; i++) {
                            runAll(own);
                        }
                    };
                }
                default:
                    throw new Fault(1, word.place);
            }
        }

        boolean marry(int s, int r) {
            if (way(s).mate != null || way(r).mate != null || banns(s, r) != 0) {
                return false;
            }
            way(s).mate = way(r);
            way(r).mate = way(s);
            way(s).she = true;
            return true;
        }

        int post(int n) {
            String s = take(n, 100);
            List<int[]> lines = new ArrayList<>();
            Set<Integer> seen = new HashSet<>();
            try {
                Tokens t = new Tokens(s);
                while (!t.isEnd()) {
                    int place = t.peek().place;
                    int number = t.number(1, 40, seen);
                    if (lines.size() == 8) {
                        throw new Fault(3, place);
                    }
                    seen.add(number);
                    lines.add(new int[] {number, t.number(0, 20)});
                    t.sign(";");
                }
            } catch (Fault f) {
                return fault(f);
            }
            post = lines;
            return lines.size();
        }

        // -- what is asked

        Way way(int s) {
            return world.ways.get(s);
        }

        int indexOf(Way w) {
            return w == null ? -1 : world.ways.indexOf(w);
        }

        int length(int s) {
            int[] a = corners.get(way(s).a);
            int[] b = corners.get(way(s).b);
            return Math.abs(a[0] - b[0]) + Math.abs(a[1] - b[1]);
        }

        int liking(int s, int r) {
            return likings.getOrDefault(s + ">" + r, 5);
        }

        int banns(int s, int r) {
            if (s == r) {
                return 1;
            }
            if (nevers.contains(Math.min(s, r) + "+" + Math.max(s, r))) {
                return 2;
            }
            return law.of(s, r) > 0 ? 3 : 0;
        }

        int told(int what) {
            what(what, 9);
            int trees = world.ways.stream().mapToInt(w -> w.trees).sum();
            return new int[] {corners.size(), world.ways.size(), goods.size(), world.year, world.couples(), trees,
                world.holes(), post.size(), refusedSteps, world.parted}[what];
        }

        int streetIs(int s, int what) {
            street(s);
            what(what, 8);
            Way w = way(s);
            return new int[] {w.a, w.b, w.houses, w.trees, length(s), indexOf(w.mate), w.she ? 1 : 0, w.years,
                w.holes}[what];
        }

        int undo() {
            if (works.isEmpty()) {
                return -1;
            }
            world = works.pop();
            refusedSteps = 0;
            return works.size();
        }

        int image() {
            if (images.size() == 3) {
                return -1;
            }
            Image i = new Image();
            i.world = world.copy();
            i.works = new ArrayDeque<>();
            works.descendingIterator().forEachRemaining(w -> i.works.push(w.copy()));
            images.push(i);
            return images.size();
        }

        int restore() {
            if (images.isEmpty()) {
                return -1;
            }
            Image i = images.pop();
            world = i.world;
            works = i.works;
            refusedSteps = 0;
            return images.size();
        }

        /** NUMBER to 100 times the STREET and the house. */
        Map<Integer, Integer> numbers(int s) {
            TreeMap<Integer, Integer> all = new TreeMap<>();
            Way w = way(s);
            List<Way> both = w.mate == null ? List.of(w) : List.of(w, w.mate);
            for (Way one : both) {
                for (int h = 1; h <= one.houses; h++) {
                    int n = one.mate == null ? h : one.she ? 2 * h - 1 : 2 * h;
                    all.put(n, 100 * indexOf(one) + h);
                }
            }
            return all;
        }

        int last(int s) {
            street(s);
            return ((TreeMap<Integer, Integer>) numbers(s)).lastKey();
        }

        int missing(int s) {
            street(s);
            Map<Integer, Integer> all = numbers(s);
            int n = 0;
            for (int i = 1; i < last(s); i++) {
                n += all.containsKey(i) ? 0 : 1;
            }
            return n;
        }

        int number(int s, int h) {
            street(s);
            if (h < 1 || h > way(s).houses) {
                status[0]++;
                throw new IndexOutOfBoundsException();
            }
            for (Map.Entry<Integer, Integer> e : numbers(s).entrySet()) {
                if (e.getValue() == 100 * s + h) {
                    return e.getKey();
                }
            }
            return -99;
        }

        int letter(int s, int n) {
            street(s);
            range(n, 1, 99);
            return numbers(s).getOrDefault(n, -1);
        }

        /** All MATCHINGS, each as whom each STREET has, sorted as BEST sorts them. */
        List<int[]> matchings() {
            int n = world.ways.size();
            List<int[]> all = new ArrayList<>();
            List<int[]> pairs = new ArrayList<>();
            for (int a = 0; a < n; a++) {
                for (int b = a + 1; b < n; b++) {
                    if (way(a).mate == null && way(b).mate == null && banns(a, b) == 0) {
                        pairs.add(new int[] {a, b});
                    }
                }
            }
            int[] none = new int[n];
            Arrays.fill(none, -1);
            all.add(none);
            for (int[] p : pairs) {
                for (int[] m : new ArrayList<>(all)) {
                    if (m[p[0]] < 0 && m[p[1]] < 0) {
                        int[] more = m.clone();
                        more[p[0]] = p[1];
                        more[p[1]] = p[0];
                        all.add(more);
                    }
                }
            }
            all.sort(Arrays::compare);
            return all;
        }

        boolean isStable(int[] m) {
            for (int a = 0; a < m.length; a++) {
                for (int b = a + 1; b < m.length; b++) {
                    boolean could = m[a] != b && way(a).mate == null && way(b).mate == null && banns(a, b) == 0;
                    int has = m[a] < 0 ? 0 : liking(a, m[a]);
                    int hasToo = m[b] < 0 ? 0 : liking(b, m[b]);
                    if (could && liking(a, b) > has && liking(b, a) > hasToo) {
                        return false;
                    }
                }
            }
            return true;
        }

        int[][] stables() {
            return matchings().stream().filter(this::isStable).toArray(int[][]::new);
        }

        int stableFor(int s) {
            street(s);
            int[][] all = stables();
            return all.length == 0 ? -1 : all[0][s];
        }

        int warm(int[] m) {
            int sum = 0;
            for (int a = 0; a < m.length; a++) {
                sum += m[a] < 0 ? 0 : liking(a, m[a]);
            }
            return sum;
        }

        int[] best() {
            int[] best = null;
            for (int[] m : matchings()) {
                if (best == null || warm(m) > warm(best)) {
                    best = m;
                }
            }
            return best;
        }

        int bestFor(int s) {
            street(s);
            return best()[s];
        }

        int tempted() {
            int n = world.ways.size();
            for (int code = 0; code < 100; code++) {
                int a = code / 10;
                int b = code % 10;
                if (a < b && b < n && way(a).mate != way(b) && banns(a, b) == 0) {
                    int has = way(a).mate == null ? 0 : liking(a, indexOf(way(a).mate));
                    int hasToo = way(b).mate == null ? 0 : liking(b, indexOf(way(b).mate));
                    if (liking(a, b) > has && liking(b, a) > hasToo) {
                        return code;
                    }
                }
            }
            return -1;
        }

        int distance(int from, int to, int without) {
            int n = corners.size();
            int[][] d = new int[n][n];
            for (int i = 0; i < n; i++) {
                Arrays.fill(d[i], 99999);
                d[i][i] = 0;
            }
            for (int s = 0; s < world.ways.size(); s++) {
                if (s != without) {
                    int a = way(s).a;
                    int b = way(s).b;
                    d[a][b] = Math.min(d[a][b], length(s));
                    d[b][a] = d[a][b];
                }
            }
            for (int k = 0; k < n; k++) {
                for (int i = 0; i < n; i++) {
                    for (int j = 0; j < n; j++) {
                        d[i][j] = Math.min(d[i][j], d[i][k] + d[k][j]);
                    }
                }
            }
            return d[from][to] >= 99999 ? -1 : d[from][to];
        }

        int way(int a, int b) {
            corner(a);
            corner(b);
            return distance(a, b, -1);
        }

        /** By the walks themselves: where one is, and which of the told STREETS are behind one. */
        int round(int told) {
            range(told, 0, (1 << world.ways.size()) - 1);
            if (told == 0) {
                return 0;
            }
            int start = way(Integer.numberOfTrailingZeros(told)).a;
            Map<Integer, Integer> least = new HashMap<>();
            PriorityQueue<int[]> open = new PriorityQueue<>((x, y) -> Integer.compare(x[0], y[0]));
            open.add(new int[] {0, start, 0});
            while (!open.isEmpty()) {
                int[] at = open.remove();
                if (at[1] == start && at[2] == told) {
                    return at[0];
                }
                if (least.putIfAbsent(at[1] * 256 + at[2], at[0]) != null) {
                    continue;
                }
                for (int s = 0; s < world.ways.size(); s++) {
                    int to = way(s).a == at[1] ? way(s).b : way(s).b == at[1] ? way(s).a : -1;
                    if (to >= 0) {
                        open.add(new int[] {at[0] + length(s), to, at[2] | told & 1 << s});
                    }
                }
            }
            return -1;
        }

        int reach(int c) {
            corner(c);
            int bits = 0;
            for (int i = 0; i < corners.size(); i++) {
                bits |= distance(c, i, -1) < 0 ? 0 : 1 << i;
            }
            return bits;
        }

        int bridges(int what) {
            what(what, 1);
            List<Integer> all = new ArrayList<>();
            for (int s = 0; s < world.ways.size(); s++) {
                if (distance(way(s).b, way(s).a, s) < 0) {
                    all.add(s);
                }
            }
            return what == 0 ? all.size() : all.isEmpty() ? -1 : all.get(0);
        }

        int worth(int bits, int who) {
            int sum = 0;
            for (int g = 0; g < goods.size(); g++) {
                sum += (bits & 1 << g) == 0 ? 0 : goods.get(g)[who];
            }
            return sum;
        }

        int fair(int what) {
            what(what, 1);
            List<Integer> all = new ArrayList<>();
            int full = (1 << goods.size()) - 1;
            for (int one = 0; one <= full; one++) {
                if (2 * worth(one, 0) >= worth(full, 0) && 2 * worth(full - one, 1) >= worth(full, 1)) {
                    all.add(one);
                }
            }
            return what == 0 ? all.size() : all.isEmpty() ? -1 : all.get(0);
        }

        int even() {
            int full = (1 << goods.size()) - 1;
            int most = 0;
            for (int one = 0; one <= full; one++) {
                most = Math.max(most, Math.min(worth(one, 0), worth(full - one, 1)));
            }
            return most;
        }

        /** MATES as texts: "s3", "h3" or "-". */
        List<String> mates(int s) {
            List<String> all = new ArrayList<>();
            for (int o = 0; o < world.ways.size(); o++) {
                if (banns(s, o) == 0) {
                    all.add("s" + o);
                }
                if (banns(o, s) == 0) {
                    all.add("h" + o);
                }
            }
            all.add("-");
            for (int[] line : post) {
                all.removeIf(m -> comes(m, way(s).houses, line[0]) != line[1]);
            }
            return all;
        }

        static int comes(String mate, int houses, int number) {
            for (int h = 1; h <= houses; h++) {
                int n = mate.startsWith("s") ? 2 * h - 1 : mate.startsWith("h") ? 2 * h : h;
                if (n == number) {
                    return h;
                }
            }
            return 0;
        }

        int matesIs(int s, int what) {
            street(s);
            what(what, 3);
            int[] answer = new int[4];
            for (String m : mates(s)) {
                answer[0]++;
                if (m.equals("-")) {
                    answer[3] = 1;
                } else {
                    answer[m.charAt(0) == 's' ? 1 : 2] |= 1 << m.charAt(1) - '0';
                }
            }
            return answer[what];
        }

        int look(int s, int what) {
            street(s);
            what(what, 1);
            int best = 0;
            int fewest = 99;
            for (int n = 1; n <= 40; n++) {
                int number = n;
                if (post.stream().anyMatch(line -> line[0] == number)) {
                    continue;
                }
                int[] left = new int[21];
                for (String m : mates(s)) {
                    left[comes(m, way(s).houses, n)]++;
                }
                int worst = Arrays.stream(left).max().getAsInt();
                if (worst < fewest) {
                    fewest = worst;
                    best = n;
                }
            }
            return what == 0 ? best : fewest;
        }

        int right(int s) {
            street(s);
            Way w = way(s);
            String mate = w.mate == null ? "-" : w.she ? "s" : "h";
            int n = 0;
            for (int[] line : post) {
                if (comes(mate, w.houses, line[0]) != line[1]) {
                    break;
                }
                n++;
            }
            return n;
        }

        int lane() {
            int x = lane[0] - lane[2] * world.year;
            for (int k = 0; k <= 100; k++) {
                if (x <= river) {
                    return k;
                }
                x -= lane[2];
            }
            return -1;
        }

        int stop() {
            int bits = 0;
            int last = lane() < 0 ? 100 : lane();
            for (int c = 0; c < corners.size(); c++) {
                for (int k = world.year; k <= world.year + last; k++) {
                    boolean there = corners.get(c)[0] == lane[0] - k * lane[2] && corners.get(c)[1] == lane[1] + k * lane[3];
                    bits |= there ? 1 << c : 0;
                }
            }
            return bits;
        }

        int gain(int own, int other, int v) {
            return own > other ? v - own : own == other ? (v - own) / 2 : 0;
        }

        int suitors(int n, int v, int w, int what) {
            range(n, 0, 20);
            range(v, 0, 40);
            range(w, 0, 40);
            what(what, 2);
            List<Integer> rests = new ArrayList<>();
            for (int a = 0; a <= n; a++) {
                for (int b = 0; b <= n; b++) {
                    boolean rest = true;
                    for (int c = 0; c <= n; c++) {
                        rest &= gain(c, b, v) <= gain(a, b, v) && gain(c, a, w) <= gain(b, a, w);
                    }
                    if (rest) {
                        rests.add(100 * a + b);
                    }
                }
            }
            if (what == 0) {
                return rests.size();
            }
            if (rests.isEmpty()) {
                return what == 1 ? -1 : 0;
            }
            int a = rests.get(0) / 100;
            int b = rests.get(0) % 100;
            return what == 1 ? rests.get(0) : gain(a, b, v) + gain(b, a, w);
        }

        int gets(int own, int other, int v) {
            range(own, 0, 40);
            range(other, 0, 40);
            range(v, 0, 40);
            return gain(own, other, v);
        }

        int ahead(int years, int what) {
            range(years, 0, 60);
            what(what, 2);
            World w = world.copy();
            for (int i = 0; i < years; i++) {
                w.turn();
            }
            int longest = w.ways.stream().mapToInt(x -> x.years).max().orElse(0);
            return new int[] {w.couples(), w.holes(), longest}[what];
        }

        int[] live(int seed, int q, int years, World w) {
            long s = seed;
            int quarrels = 0;
            for (int y = 0; y < years; y++) {
                s = (int) (s * 1103515245L + 12345L);
                if (!w.ways.isEmpty() && (s >> 16 & 32767) % 16 < q) {
                    s = (int) (s * 1103515245L + 12345L);
                    int street = (int) ((s >> 16 & 32767) % w.ways.size());
                    quarrels += w.quarrel(w.ways.get(street)) ? 1 : 0;
                }
                w.turn();
            }
            return new int[] {w.couples(), w.parted - world.parted, w.holes(), quarrels};
        }

        int centuries(int seed, int q, int years, int what) {
            range(q, 0, 16);
            range(years, 1, 100);
            what(what, 3);
            return live(seed, q, years, world.copy())[what];
        }

        int span(int[] a) {
            range(a[1], 1, 20);
            range(a[2], 0, 16);
            range(a[3], 1, 100);
            what(a[4], 2);
            range(a[5], 0, world.ways.size() - 1);
            int[] answer = {99, 0, 0};
            for (int i = 0; i < a[1]; i++) {
                World w = world.copy();
                int couples = live(a[0] + i, a[2], a[3], w)[0];
                answer[0] = Math.min(answer[0], couples);
                answer[1] = Math.max(answer[1], couples);
                answer[2] += w.ways.get(a[5]).mate == null ? 0 : 1;
            }
            return answer[a[4]];
        }

        /** The call with that number, counted as the face tells them. */
        int call(int which, int[] a) {
            switch (which) {
                case 0: return feed(Arrays.copyOf(a, 5));
                case 1: return city(a[0]);
                case 2: return law(a[0]);
                case 3: return work(a[0]);
                case 4: return post(a[0]);
                case 5: return faultAt;
                case 6: return undo();
                case 7: return told(a[0]);
                case 8: return streetIs(a[0], a[1]);
                case 9:
                    street(a[0]);
                    street(a[1]);
                    if (a[0] == a[1]) {
                        throw iae();
                    }
                    return liking(a[0], a[1]);
                case 10:
                    street(a[0]);
                    street(a[1]);
                    return banns(a[0], a[1]);
                case 11: return number(a[0], a[1]);
                case 12: return letter(a[0], a[1]);
                case 13: return last(a[0]);
                case 14: return missing(a[0]);
                case 15: return stables().length;
                case 16: return stableFor(a[0]);
                case 17: return warm(best());
                case 18: return bestFor(a[0]);
                case 19: return tempted();
                case 20: return way(a[0], a[1]);
                case 21: return round(a[0]);
                case 22: return reach(a[0]);
                case 23: return bridges(a[0]);
                case 24: return fair(a[0]);
                case 25: return even();
                case 26: return matesIs(a[0], a[1]);
                case 27: return look(a[0], a[1]);
                case 28: return right(a[0]);
                case 29: return lane();
                case 30: return stop();
                case 31: return suitors(a[0], a[1], a[2], a[3]);
                case 32: return gets(a[0], a[1], a[2]);
                case 33: return ahead(a[0], a[1]);
                case 34: return centuries(a[0], a[1], a[2], a[3]);
                case 35: return span(a);
                case 36: return image();
                case 37: return restore();
                case 38: return a[0] < 0 || a[0] > 2 ? -1 : status[a[0]];
                default: return a[0] == 0 ? images.size() : a[0] == 1 ? tape.length() : a[0] == 2 ? works.size() : -1;
            }
        }
    }

    private static int callClass(MarriedStreets x, int which, int[] a) {
        switch (which) {
            case 0: return x.feed(a[0], a[1], a[2], a[3], a[4]);
            case 1: return x.city(a[0]);
            case 2: return x.law(a[0]);
            case 3: return x.work(a[0]);
            case 4: return x.post(a[0]);
            case 5: return x.fault();
            case 6: return x.undo();
            case 7: return x.told(a[0]);
            case 8: return x.street(a[0], a[1]);
            case 9: return x.likes(a[0], a[1]);
            case 10: return x.banns(a[0], a[1]);
            case 11: return x.number(a[0], a[1]);
            case 12: return x.letter(a[0], a[1]);
            case 13: return x.last(a[0]);
            case 14: return x.missing(a[0]);
            case 15: return x.stable();
            case 16: return x.stableFor(a[0]);
            case 17: return x.best();
            case 18: return x.bestFor(a[0]);
            case 19: return x.tempted();
            case 20: return x.way(a[0], a[1]);
            case 21: return x.round(a[0]);
            case 22: return x.reach(a[0]);
            case 23: return x.bridges(a[0]);
            case 24: return x.fair(a[0]);
            case 25: return x.even();
            case 26: return x.mates(a[0], a[1]);
            case 27: return x.look(a[0], a[1]);
            case 28: return x.right(a[0]);
            case 29: return x.lane();
            case 30: return x.stop();
            case 31: return x.suitors(a[0], a[1], a[2], a[3]);
            case 32: return x.gets(a[0], a[1], a[2]);
            case 33: return x.ahead(a[0], a[1]);
            case 34: return x.centuries(a[0], a[1], a[2], a[3]);
            case 35: return x.span(a[0], a[1], a[2], a[3], a[4], a[5]);
            case 36: return x.image();
            case 37: return x.restore();
            case 38: return x.status(a[0]);
            default: return x.count(a[0]);
        }
    }

    /** Texts that are mostly right, and then spoilt at times. */
    private static final class Writer {
        final Random r;
        int streets = 0;

        Writer(Random r) {
            this.r = r;
        }

        int below(int n) {
            return r.nextInt(n);
        }

        String blanks() {
            return below(12) == 0 ? " ".repeat(below(3)) : "";
        }

        String gap() {
            return below(12) == 0 ? "  " : " ";
        }

        /** Mostly a number from least to most, at times one beside. */
        String number(int least, int most) {
            int n = least + below(Math.max(1, most - least + 1));
            if (below(60) == 0) {
                n = most + 1;
            }
            return gap() + (below(30) == 0 ? "0" : "") + n;
        }

        String spoil(String s) {
            if (below(5) != 0 || s.isEmpty()) {
                return s;
            }
            int i = below(s.length());
            String signs = " ;[](),+-*/0129abcyrs\u0000\u00ff";
            switch (below(4)) {
                case 0: return s.substring(0, i);
                case 1: return s.substring(0, i) + s.substring(i + 1);
                case 2: return s.substring(0, i) + signs.charAt(below(signs.length())) + s.substring(i);
                default: return s.substring(0, i) + signs.charAt(below(signs.length())) + s.substring(i + 1);
            }
        }

        String city() {
            StringBuilder s = new StringBuilder();
            int corners = 2 + below(below(20) == 0 ? 10 : 8);
            int size = below(4) == 0 ? 6 : 61;
            for (int i = 0; i < corners; i++) {
                s.append(blanks()).append("corner").append(number(0, size - 1)).append(number(0, size - 1)).append(";");
            }
            streets = below(below(20) == 0 ? 10 : 9);
            for (int i = 0; i < streets; i++) {
                int a = below(corners);
                int b = (a + 1 + below(below(3) == 0 ? 1 : corners - 1)) % corners;
                s.append("street ").append(a).append(gap()).append(b).append(number(1, 20)).append(number(0, 20)).append(";");
            }
            int more = below(below(10) == 0 ? 50 : 20);
            for (int i = 0; i < more; i++) {
                s.append(blanks()).append(clause()).append(blanks()).append(";");
            }
            return spoil(s.append(blanks()).toString());
        }

        String clause() {
            int kind = below(streets < 2 ? 3 : 8);
            if (kind == 0) {
                return "good" + number(0, 9) + number(0, 9);
            }
            if (kind == 1) {
                return "lane" + number(0, 60) + number(0, 60) + number(0, 9) + number(0, 9);
            }
            if (kind == 2) {
                return "river" + number(0, 60);
            }
            int a = below(streets);
            int b = (a + 1 + below(streets - 1)) % streets;
            return kind == 3 ? "never " + a + " " + b : "likes " + a + " " + b + number(0, 9);
        }

        String sum(int depth) {
            StringBuilder s = new StringBuilder(unit(depth));
            for (int i = below(4); i > 0; i--) {
                s.append(blanks()).append("+-*/".charAt(below(4))).append(blanks()).append(unit(depth));
            }
            return s.toString();
        }

        String unit(int depth) {
            String[] words = {"hers", "his", "trees", "likes", "liked", "cross", "length", "year", "holes"};
            int kind = below(depth > 0 ? 10 : 6);
            if (kind < 2) {
                return "" + below(below(60) == 0 ? 1001 : 12);
            }
            if (kind < 6) {
                return words[below(words.length)];
            }
            if (kind < 8) {
                return "(" + blanks() + sum(depth - 1) + ")";
            }
            return (kind == 8 ? "least[" : "most [") + sum(depth - 1) + blanks() + "," + sum(depth - 1) + "]";
        }

        String law() {
            return spoil(below(12) == 0 ? "(".repeat(5 + below(3)) + "hers" + ")".repeat(5 + below(3)) : sum(2));
        }

        String steps(int depth) {
            StringBuilder s = new StringBuilder();
            for (int i = 1 + below(7); i > 0; i--) {
                s.append(blanks()).append(step(depth)).append(blanks()).append(";");
            }
            return s.toString();
        }

        String step(int depth) {
            int last = Math.max(0, streets - 1);
            switch (below(depth > 0 ? 12 : 9)) {
                case 0: case 1: case 2: return "marry" + number(0, last) + number(0, last);
                case 3: return "part" + number(0, last);
                case 4: return "plant" + number(0, last) + number(1, 9);
                case 5: case 6: return "quarrel" + number(0, last);
                case 7: return "repave" + number(0, last);
                case 8: return "year";
                default: return "again" + number(0, 20) + blanks() + "[" + steps(depth - 1) + "]";
            }
        }

        String work() {
            String s = steps(below(8));
            for (int i = 0; i < 20 && s.length() > 150; i++) {
                s = steps(below(3));
            }
            return spoil(s);
        }

        String post() {
            StringBuilder s = new StringBuilder();
            int kind = below(4);
            int most = 2 + below(12);
            for (int i = below(below(9) == 0 ? 10 : 5); i > 0; i--) {
                int n = 1 + below(below(6) == 0 ? 41 : most);
                int h = kind == 0 ? n : kind == 1 ? n % 2 * (n + 1) / 2 : kind == 2 ? (n + 1) % 2 * n / 2 : 0;
                s.append(blanks()).append(n).append(gap()).append(below(8) == 0 ? below(21) : Math.min(20, h)).append(";");
            }
            return spoil(s.toString());
        }
    }

    private static int failures = 0;
    private static long compared = 0;

    private static void both(MarriedStreets x, Model m, int which, int[] a, List<String> log) {
        String got;
        String want;
        try {
            got = "" + callClass(x, which, a);
        } catch (RuntimeException e) {
            got = e.getClass().getSimpleName();
        }
        try {
            want = "" + m.call(which, a);
        } catch (IllegalArgumentException | IndexOutOfBoundsException | java.util.NoSuchElementException e) {
            want = e.getClass().getSimpleName();
        }
        compared++;
        if (log.size() < 600) {
            log.add("call " + which + " " + Arrays.toString(a) + " = " + want);
        }
        if (!got.equals(want)) {
            failures++;
            if (failures < 4) {
                System.out.println("seed run: " + log);
            }
            System.out.println("call " + which + Arrays.toString(a) + " answered " + got + ", the model " + want);
        }
    }

    private static void tell(MarriedStreets x, Model m, int which, String s, List<String> log) {
        log.add("text '" + s + "'");
        for (int at = 0; at < s.length(); at += 20) {
            int[] n = new int[6];
            for (int i = 0; i < 20; i++) {
                n[i / 4] = n[i / 4] << 8 | (at + i < s.length() ? s.charAt(at + i) & 255 : 0);
            }
            both(x, m, 0, n, log);
        }
        both(x, m, which, new int[] {s.length(), 0, 0, 0, 0, 0}, log);
        both(x, m, 5, new int[6], log);
    }

    private static int[] arguments(Random r, int which) {
        int[][] most = {{}, {4}, {4}, {4}, {4}, {}, {}, {10}, {8, 9}, {8, 8}, {8, 8}, {8, 21}, {8, 45}, {8}, {8}, {}, {8},
            {}, {8}, {}, {9, 9}, {255}, {9}, {2}, {2}, {}, {8, 4}, {8, 2}, {8}, {}, {}, {21, 41, 41, 3}, {41, 41, 41},
            {61, 3}, {0, 17, 101, 4}, {0, 21, 17, 101, 3, 8}, {}, {}, {3}, {3}};
        int[] a = new int[6];
        for (int i = 0; i < most[which].length; i++) {
            a[i] = r.nextInt(40) == 0 ? r.nextInt(3) - 2 : r.nextInt(most[which][i] + 1);
            if (r.nextInt(300) == 0) {
                a[i] = r.nextInt();
            }
        }
        if (which >= 34 && which <= 35) {
            a[0] = r.nextInt();
        }
        if (which == 21 && r.nextInt(3) != 0) {
            a[0] = r.nextInt(16);
        }
        if (which == 0) {
            for (int i = 0; i < 5; i++) {
                a[i] = r.nextInt();
            }
        }
        return a;
    }

    private static void run(int seed) {
        Random r = new Random(seed);
        Writer w = new Writer(r);
        MarriedStreets x = new MarriedStreets();
        Model m = new Model();
        List<String> log = new ArrayList<>();
        String city = w.city();
        if (city.length() <= 600) {
            tell(x, m, 1, city, log);
        }
        w.streets = Math.max(0, m.world.ways.size());
        for (int i = 0; i < CALLS; i++) {
            int kind = r.nextInt(60);
            String s = kind == 0 ? w.law() : kind == 1 ? w.post() : kind < 8 ? w.work() : null;
            if (kind == 8 && r.nextInt(8) == 0) {
                s = w.city();
            }
            if (s != null) {
                int which = kind == 0 ? 2 : kind == 1 ? 4 : kind == 8 ? 1 : 3;
                if (m.tape.length() == 0 && s.length() <= 600) {
                    tell(x, m, which, s, log);
                } else {
                    both(x, m, which, new int[] {m.tape.length() - r.nextInt(3), 0, 0, 0, 0, 0}, log);
                }
                w.streets = m.world.ways.size();
            } else {
                int which = 5 + r.nextInt(35);
                if (r.nextInt(200) == 0) {
                    which = r.nextInt(5);
                }
                if (r.nextInt(12) == 0) {
                    which = new int[] {6, 6, 36, 37}[r.nextInt(4)];
                }
                both(x, m, which, arguments(r, which), log);
                w.streets = m.world.ways.size();
            }
            if (failures > 20) {
                return;
            }
        }
    }

    public static void main(String[] args) {
        int first = args.length > 0 ? Integer.parseInt(args[0]) : 0;
        int runs = args.length > 1 ? Integer.parseInt(args[1]) : RUNS;
        for (int seed = first; seed < first + runs && failures <= 20; seed++) {
            run(seed);
        }
        System.out.println("ModelTest: " + compared + " answers compared, " + failures + " differ");
        if (failures != 0) {
            System.exit(1);
        }
    }
}
