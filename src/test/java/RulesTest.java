import java.io.IOException;
import java.lang.reflect.Constructor;
import java.lang.reflect.Field;
import java.lang.reflect.Method;
import java.lang.reflect.Modifier;
import java.nio.file.Files;
import java.nio.file.Path;
import java.util.ArrayList;
import java.util.Arrays;
import java.util.HashSet;
import java.util.List;
import java.util.NoSuchElementException;
import java.util.Set;
import java.util.TreeSet;
import java.util.regex.Matcher;
import java.util.regex.Pattern;

/** The face of the document, and those rules of LANGUAGE.md that can be seen without reading on. */
public final class RulesTest {
    private static final String[] FACE = {"feed 5", "city 1", "law 1", "work 1", "post 1", "fault 0", "undo 0", "told 1",
        "street 2", "likes 2", "banns 2", "number 2", "letter 2", "last 1", "missing 1", "stable 0", "stableFor 1",
        "best 0", "bestFor 1", "tempted 0", "way 2", "round 1", "reach 1", "bridges 1", "fair 1", "even 0", "mates 2",
        "look 2", "right 1", "lane 0", "stop 0", "suitors 4", "gets 3", "ahead 2", "centuries 4", "span 6", "image 0",
        "restore 0", "status 1", "count 1"};

    /** What the face says that its calls throw: I IllegalArgument, N NoSuchElement, B IndexOutOfBounds. */
    private static final String[] THROWS = {"city I", "law I", "work I", "post I", "told I", "street NI", "likes NI",
        "banns N", "number BN", "letter NI", "last N", "missing N", "stableFor N", "bestFor N", "way N", "round I",
        "reach N", "bridges I", "fair I", "mates NI", "look NI", "right N", "suitors I", "gets I", "ahead I",
        "centuries I", "span I"};

    private static int wrong = 0;

    private static void need(boolean holds, String rule) {
        if (!holds) {
            wrong++;
            System.out.println("not so: " + rule);
        }
    }

    private static void face() {
        Class<?> c = MarriedStreets.class;
        need(Modifier.isPublic(c.getModifiers()) && Modifier.isFinal(c.getModifiers()), "the class is public and final");
        Set<String> open = new TreeSet<>();
        for (Method m : c.getDeclaredMethods()) {
            if (!Modifier.isPrivate(m.getModifiers())) {
                need(Modifier.isPublic(m.getModifiers()) && !Modifier.isStatic(m.getModifiers()), m + " is a public method");
                need(m.getReturnType() == int.class, m + " answers an int");
                need(Arrays.stream(m.getParameterTypes()).allMatch(p -> p == int.class), m + " takes ints");
                need(declared(m).equals(due(m.getName())), m + " says that it throws " + due(m.getName()));
                open.add(m.getName() + " " + m.getParameterCount());
            }
        }
        need(open.equals(new TreeSet<>(Arrays.asList(FACE))), "the face is that of the document: " + open);
        for (Field f : c.getDeclaredFields()) {
            need(Modifier.isPrivate(f.getModifiers()) || f.getName().equals("NONE"), f + " is private");
        }
        Constructor<?>[] made = c.getDeclaredConstructors();
        need(made.length == 1 && Modifier.isPublic(made[0].getModifiers()) && made[0].getParameterCount() == 0,
                "one public constructor");
        inside(c);
    }

    private static String declared(Method m) {
        StringBuilder signs = new StringBuilder();
        for (Class<?> e : m.getExceptionTypes()) {
            signs.append(e == IllegalArgumentException.class ? 'I' : e == NoSuchElementException.class ? 'N'
                    : e == IndexOutOfBoundsException.class ? 'B' : '?');
        }
        return signs.toString();
    }

    private static String due(String name) {
        for (String t : THROWS) {
            if (t.startsWith(name + " ")) {
                return t.substring(name.length() + 1);
            }
        }
        return "";
    }

    private static void inside(Class<?> c) {
        Set<String> names = new HashSet<>();
        for (String f : FACE) {
            names.add(f.substring(0, f.indexOf(' ')));
        }
        List<Class<?>> all = new ArrayList<>(Arrays.asList(c.getDeclaredClasses()));
        need(all.size() <= 12, "at most some twelve classes");
        all.add(c);
        for (Class<?> one : all) {
            need(one == c || Modifier.isStatic(one.getModifiers()), one + " is static");
            int fields = 0;
            for (Field f : one.getDeclaredFields()) {
                boolean isStatic = Modifier.isStatic(f.getModifiers());
                need(!isStatic || Modifier.isFinal(f.getModifiers()), f + " is final");
                fields += isStatic ? 0 : 1;
            }
            need(fields <= 20, one + " has some twenty fields: " + fields);
            for (Method m : one.getDeclaredMethods()) {
                need(Modifier.isPublic(m.getModifiers()) && one == c || !names.contains(m.getName()),
                        m + " has no name of the face");
                need(m.getParameterCount() <= 7, m + " takes at most seven");
            }
        }
    }

    private static void source() throws IOException {
        String home = System.getenv("MARRIED_STREETS_HOME");
        Path path = Path.of(home == null ? "." : home, "src/main/java/MarriedStreets.java");
        List<String> lines = Files.readAllLines(path);
        for (String line : lines) {
            need(!line.startsWith("import ") || line.equals("import java.util.NoSuchElementException;"), line);
            need(line.chars().allMatch(sign -> sign >= 32 && sign < 127), "plain signs: " + line);
            need(line.length() <= 120, "a line's length: " + line);
        }
        String code = String.join("\n", lines).replaceAll("(?s)/\\*.*?\\*/", "").replaceAll("//[^\n]*", "");
        for (String word : new String[] {"catch", "try", "finally", "synchronized", "assert", "package", "double", "float",
            "System", "instanceof", "Exact"}) {
            need(!Pattern.compile("\\b" + word + "\\b|" + word + "\\(").matcher(code).find(), "no " + word);
        }
        need(!code.contains("->") && !code.contains("::"), "no lambda, no method reference");
        making(code);
        lengths(lines);
    }

    /** All rows are made by constructors, so that no call makes anything but what it throws. */
    private static void making(String code) {
        Matcher m = Pattern.compile("([^\n]*)\\bnew (\\w+)").matcher(code);
        while (m.find()) {
            String ahead = m.group(1);
            boolean isField = ahead.contains("private final int[]");
            boolean isThrown = ahead.contains("throw ");
            boolean isInConstructor = ahead.matches("        \\w+ = ");
            need(isField || isThrown || isInConstructor, "made by a call: " + m.group());
        }
    }

    private static void lengths(List<String> lines) {
        int start = -1;
        String indent = "";
        for (int i = 0; i < lines.size(); i++) {
            String line = lines.get(i);
            if (start < 0 && line.matches(" +[\\w\\[\\] ]+\\([^;]*\\)[\\w, ]* \\{") && !line.matches(" +(if|for|while|switch|return) .*")
                    && !line.contains("} else")) {
                start = i;
                indent = line.substring(0, line.indexOf(line.trim()));
            } else if (start >= 0 && line.equals(indent + "}")) {
                need(i - start + 1 <= 60, "a method of some sixty lines: " + lines.get(start).trim());
                start = -1;
            }
        }
    }

    public static void main(String[] args) throws IOException {
        face();
        source();
        System.out.println("RulesTest: " + (wrong == 0 ? "all rules hold" : wrong + " do not hold"));
        if (wrong != 0) {
            System.exit(1);
        }
    }
}
