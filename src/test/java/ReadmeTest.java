import java.io.IOException;
import java.lang.reflect.Method;
import java.lang.reflect.Modifier;
import java.net.URL;
import java.net.URLClassLoader;
import java.nio.file.Files;
import java.nio.file.Path;
import java.util.ArrayList;
import java.util.List;
import java.util.Set;
import java.util.TreeSet;
import java.util.function.IntSupplier;
import java.util.regex.Matcher;
import java.util.regex.Pattern;
import javax.tools.JavaCompiler;
import javax.tools.ToolProvider;

/**
 * Makes the calls that README.md shows, each of which must answer, or throw, what stands behind it. Its java blocks are
 * made into one program, so that they must also compile as they are printed.
 */
public final class ReadmeTest {
    private static final String PROGRAM = "ReadmeCalls";
    private static final Pattern NEW_OBJECT = Pattern.compile("MarriedStreets \\w+ = new MarriedStreets\\(\\);");
    private static final Pattern ANSWER = Pattern.compile("(-?\\d+|\\w+Exception)\\b.*");
    private static final Pattern CALL = Pattern.compile("\\w+\\.(\\w+)\\(");
    private static final Pattern FILE = Pattern.compile("(?:\\.\\./shared|src|\\.ci)/[\\w./]*\\w");

    private static final List<String> PAGE = new ArrayList<>();
    private static final Set<String> SHOWN = new TreeSet<>();
    private static int answers = 0;
    private static int wrong = 0;

    private static void wrong(int line, String what) {
        wrong++;
        System.out.println("README.md, line " + line + ": " + what);
    }

    /** The program made of the page asks this for each call that the page shows. */
    public static void due(int line, String want, IntSupplier call) {
        answers++;
        String got;
        try {
            got = String.valueOf(call.getAsInt());
        } catch (RuntimeException e) {
            got = e.getClass().getSimpleName();
        }
        if (!got.equals(want)) {
            wrong(line, "the answer is " + got + ", there stands " + want);
        }
    }

    // ---- the program

    /** A block that begins with a comment or with static is a method, any other one is calls. */
    private static String program() {
        StringBuilder methods = new StringBuilder();
        StringBuilder calls = new StringBuilder();
        for (int i = 0; i < PAGE.size(); i++) {
            if (PAGE.get(i).equals("```java")) {
                int end = i + 1;
                while (end < PAGE.size() && !PAGE.get(end).equals("```")) {
                    end++;
                }
                String first = PAGE.get(i + 1);
                if (first.startsWith("/**") || first.startsWith("static ")) {
                    methods.append(String.join("\n", PAGE.subList(i + 1, end))).append('\n');
                } else {
                    addCalls(calls, i + 1, end);
                }
                i = end;
            }
        }
        return "public final class " + PROGRAM + " {\n" + methods + "public static void make() {\n" + calls + "}\n}\n";
    }

    private static void addCalls(StringBuilder calls, int from, int end) {
        StringBuilder statement = new StringBuilder();
        for (int i = from; i < end; i++) {
            String line = PAGE.get(i);
            int remark = line.indexOf("//");
            statement.append(remark < 0 ? line : line.substring(0, remark));
            String told = statement.toString().trim();
            if (told.endsWith(";")) {
                addStatement(calls, i + 1, told, remark < 0 ? "" : line.substring(remark + 2).trim());
                statement.setLength(0);
            }
        }
        if (!statement.toString().isBlank()) {
            wrong(end, "a call without its end: " + statement.toString().trim());
        }
    }

    private static void addStatement(StringBuilder calls, int line, String told, String remark) {
        Matcher answer = ANSWER.matcher(remark);
        Matcher call = CALL.matcher(told);
        if (NEW_OBJECT.matcher(told).matches()) {
            calls.append(told).append('\n');
        } else if (answer.matches() && call.lookingAt()) {
            SHOWN.add(call.group(1));
            calls.append("ReadmeTest.due(" + line + ", \"" + answer.group(1) + "\", () -> "
                    + told.substring(0, told.length() - 1) + ");\n");
        } else {
            wrong(line, "no call with an answer behind it: " + told);
        }
    }

    private static void make(String program) throws IOException, ReflectiveOperationException {
        JavaCompiler javac = ToolProvider.getSystemJavaCompiler();
        if (javac == null) {
            wrong(1, "the java that runs this test has no javac beside it");
            return;
        }
        Path folder = Files.createTempDirectory(PROGRAM);
        try {
            Path source = Files.writeString(folder.resolve(PROGRAM + ".java"), program);
            String[] how = {"-encoding", "UTF-8", "-classpath", System.getProperty("java.class.path"),
                "-d", folder.toString(), source.toString()};
            if (javac.run(null, null, null, how) != 0) {
                wrong(1, "the java blocks don't compile");
                return;
            }
            try (URLClassLoader loader = new URLClassLoader(new URL[] {folder.toUri().toURL()})) {
                loader.loadClass(PROGRAM).getMethod("make").invoke(null);
            }
        } finally {
            remove(folder);
        }
    }

    private static void remove(Path folder) throws IOException {
        List<Path> files;
        try (var all = Files.list(folder)) {
            files = all.toList();
        }
        for (Path file : files) {
            Files.delete(file);
        }
        Files.delete(folder);
    }

    // ---- what else the page must have

    private static void allCallsAreShown() {
        for (Method method : MarriedStreets.class.getDeclaredMethods()) {
            if (Modifier.isPublic(method.getModifiers()) && !SHOWN.contains(method.getName())) {
                wrong(1, "the page doesn't show " + method.getName());
            }
        }
    }

    private static void filesAreThere(Path home) {
        for (int i = 0; i < PAGE.size(); i++) {
            Matcher file = FILE.matcher(PAGE.get(i));
            while (file.find()) {
                if (!Files.exists(home.resolve(file.group()))) {
                    wrong(i + 1, "there is no " + file.group());
                }
            }
        }
    }

    private static void testsAreTold(Path home) throws IOException {
        List<Path> tests;
        try (var all = Files.list(home.resolve("src/test/java"))) {
            tests = all.toList();
        }
        for (Path test : tests) {
            String name = test.getFileName().toString().replace(".java", "");
            if (PAGE.stream().noneMatch(line -> line.startsWith("- `" + name + "`: "))) {
                wrong(PAGE.size(), "the page doesn't tell of " + name);
            }
        }
    }

    public static void main(String[] args) throws IOException, ReflectiveOperationException {
        String set = System.getenv("MARRIED_STREETS_HOME");
        Path home = Path.of(set == null ? "." : set);
        PAGE.addAll(Files.readAllLines(home.resolve("README.md")));
        make(program());
        allCallsAreShown();
        filesAreThere(home);
        testsAreTold(home);
        System.out.println("ReadmeTest: " + answers + " answers of README.md looked at, " + wrong + " wrong");
        if (wrong != 0) {
            System.exit(1);
        }
    }
}
