import java.io.IOException;
import java.lang.reflect.Constructor;
import java.lang.reflect.InvocationTargetException;
import java.lang.reflect.Method;
import java.lang.reflect.Modifier;
import java.nio.file.DirectoryStream;
import java.nio.file.Files;
import java.nio.file.Path;
import java.util.ArrayList;
import java.util.HashMap;
import java.util.List;
import java.util.Map;
import java.util.Set;
import java.util.TreeSet;
import java.util.regex.Matcher;
import java.util.regex.Pattern;

/** What README.md shows: its calls and their answers, its findings, its tests and the way to run them. */
final class ReadmeTest {
    private static final Path README = Path.of("README.md");
    private static final Path RUN = Path.of(".ci/run");
    private static final Path TESTS = Path.of("src/test/java");
    private static final Pattern MADE = Pattern.compile("VarnishNight x = new VarnishNight\\(\\);");
    private static final Pattern CALLED =
            Pattern.compile("x\\.(\\w+)\\(([^()]*)\\); *// (-?\\d+|[A-Z]+): \\S.*");
    private static final Pattern FINDING = Pattern.compile("\\| ([A-Z]+) \\| (-\\d+) \\| (\\d) \\|");
    private static final Pattern NAMED = Pattern.compile("\\b(\\w+Test)\\b");
    private static final int CALLS_OF_AN_OBJECT = 512;

    private ReadmeTest() {}

    public static void main(String[] args) throws IOException, ReflectiveOperationException {
        List<String> page = Files.readAllLines(README);
        Map<String, Long> findings = findings(page);
        everyFindingIsTold(findings);
        everyShownCallAnswersSo(page, findings);
        everyTestIsNamed(page);
        theWayToRunIsTheScript(page);
        theScriptRunsAll();
        Check.end();
    }

    private static Map<String, Long> findings(List<String> page) {
        Map<String, Long> found = new HashMap<>();
        for (String line : page) {
            Matcher row = FINDING.matcher(line);
            if (row.matches()) {
                long answer = Long.parseLong(row.group(2));
                found.put(row.group(1), answer);
                Check.due("where status counts " + row.group(1), Long.parseLong(row.group(3)), -1000000001 - answer);
            }
        }
        return found;
    }

    private static void everyFindingIsTold(Map<String, Long> found) {
        String[] names = {"BEYOND", "FULL", "KIND", "NONE", "STATE", "MISSING", "SIZE"};
        long[] answers = {Check.BEYOND, Check.FULL, Check.KIND, Check.NONE, Check.STATE, Check.MISSING, Check.SIZE};
        Check.due("findings on the page", found.size(), names.length);
        for (int i = 0; i < names.length; i++) {
            Check.due(names[i], found.getOrDefault(names[i], 0L), answers[i]);
        }
    }

    private static void everyShownCallAnswersSo(List<String> page, Map<String, Long> findings)
            throws ReflectiveOperationException {
        Set<String> shown = new TreeSet<>();
        VarnishNight x = null;
        int calls = 0;
        for (String line : javaLines(page)) {
            if (line.isBlank()) {
                continue;
            }
            if (MADE.matcher(line).matches()) {
                x = made();
                calls = 0;
                continue;
            }
            Matcher call = CALLED.matcher(line);
            Check.holds("a call with its answer: " + line, call.matches() && x != null);
            if (!call.matches() || x == null) {
                continue;
            }
            calls++;
            shown.add(call.group(1));
            Check.due(line, answer(x, call.group(1), call.group(2)), due(call.group(3), findings));
            Check.holds("no more calls than an object is good for: " + line, calls <= CALLS_OF_AN_OBJECT);
        }
        Check.same("the calls shown", shown.toString(), face().toString());
    }

    private static List<String> javaLines(List<String> page) {
        List<String> lines = new ArrayList<>();
        boolean inside = false;
        for (String line : page) {
            if (line.startsWith("```")) {
                inside = !inside && line.equals("```java");
            } else if (inside) {
                lines.add(line);
            }
        }
        return lines;
    }

    private static VarnishNight made() throws ReflectiveOperationException {
        Constructor<VarnishNight> maker = VarnishNight.class.getConstructor();
        return maker.newInstance();
    }

    private static long due(String told, Map<String, Long> findings) {
        if (!Character.isUpperCase(told.charAt(0))) {
            return Long.parseLong(told);
        }
        Check.holds("a finding's name: " + told, findings.containsKey(told));
        return findings.getOrDefault(told, 0L);
    }

    private static long answer(VarnishNight x, String name, String given)
            throws IllegalAccessException, InvocationTargetException {
        String[] numbers = given.isBlank() ? new String[0] : given.split(", ");
        for (Method method : VarnishNight.class.getDeclaredMethods()) {
            if (Modifier.isPublic(method.getModifiers()) && method.getName().equals(name)
                    && method.getParameterCount() == numbers.length) {
                return ((Number) method.invoke(x, arguments(method, numbers))).longValue();
            }
        }
        Check.holds("a call of the face: " + name + "(" + given + ")", false);
        return 0;
    }

    private static Object[] arguments(Method method, String[] numbers) {
        Object[] all = new Object[numbers.length];
        for (int i = 0; i < all.length; i++) {
            long number = Long.decode(numbers[i]);
            if (method.getParameterTypes()[i] == long.class) {
                all[i] = number;
            } else {
                all[i] = Math.toIntExact(number);
            }
        }
        return all;
    }

    private static Set<String> face() {
        Set<String> names = new TreeSet<>();
        for (Method method : VarnishNight.class.getDeclaredMethods()) {
            if (Modifier.isPublic(method.getModifiers())) {
                names.add(method.getName());
            }
        }
        return names;
    }

    private static void everyTestIsNamed(List<String> page) throws IOException {
        Set<String> named = new TreeSet<>();
        for (String line : testSection(page)) {
            Matcher name = NAMED.matcher(line.startsWith("|") ? line.split("\\|")[1] : "");
            while (name.find()) {
                named.add(name.group(1));
            }
        }
        Set<String> there = new TreeSet<>();
        try (DirectoryStream<Path> files = Files.newDirectoryStream(TESTS, "*Test.java")) {
            for (Path file : files) {
                there.add(file.getFileName().toString().replace(".java", ""));
            }
        }
        Check.same("the tests named", named.toString(), there.toString());
    }

    private static void theWayToRunIsTheScript(List<String> page) {
        List<String> commands = new ArrayList<>();
        for (String line : testSection(page)) {
            if (line.startsWith("    ")) {
                commands.add(line.strip());
            }
        }
        Check.same("the commands", commands.toString(), "[" + RUN + "]");
        Check.holds(RUN + " can be run", Files.isExecutable(RUN));
    }

    private static List<String> testSection(List<String> page) {
        int begins = page.indexOf("## Tests");
        Check.holds("a section on tests", begins >= 0);
        return begins < 0 ? List.of() : page.subList(begins, page.size());
    }

    /** The page says that all of both kinds run, and that one failing fails the whole. */
    private static void theScriptRunsAll() throws IOException {
        String script = Files.readString(RUN);
        Check.holds("the project's tests", script.contains("for test in src/test/java/*Test.java; do"));
        Check.holds("the shared tests", script.contains("for test in ../shared/tests/*.java; do"));
        Check.holds("one that fails", script.endsWith("[ \"$failed\" = 0 ] && [ \"$passed\" -gt 0 ]\n"));
    }
}
