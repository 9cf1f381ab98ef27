import java.io.IOException;
import java.lang.management.ManagementFactory;
import java.lang.reflect.Constructor;
import java.lang.reflect.Field;
import java.lang.reflect.Method;
import java.lang.reflect.Modifier;
import java.nio.file.Files;
import java.nio.file.Path;
import java.util.ArrayList;
import java.util.HashSet;
import java.util.List;
import java.util.Set;
import java.util.TreeSet;
import java.util.regex.Matcher;
import java.util.regex.Pattern;

/** The public face, and those rules of LANGUAGE.md that can be seen from the text or measured. */
public final class LanguageTest {
    private static final Path SOURCE = Path.of("src/main/java/VarnishNight.java");
    private static final String[] FACE = {
        "int all()", "int as(int, int)", "int book(int, int)", "int by(int, int)", "int clash(int)",
        "int copy(int, int, int, int, int)", "int count(int)", "int feed(int, int)", "int figure(int, int, int)",
        "int hangs(int)", "int hours(int)", "int image()", "int kind(int, int)", "int lays(int)", "int many(int)",
        "int night()", "int nose(int, int)", "int now(int)", "int of(int, int)", "int on(int, int, int)",
        "int place(int, int)", "int porter(int)", "int read(int, int)", "int seen(int)", "int set(int, int, int)",
        "int sheet(int, int, int)", "int status(int)", "int tacky(int)", "int tear()", "int turn(int, int)",
        "int undo()", "int want(int, int)", "int when(int)", "int wipe()", "long write(int, int, long)"};

    public static void main(String[] args) throws IOException {
        face();
        names();
        classes();
        text();
        callsMakeNoObjects();
        Check.end();
    }

    private static void face() {
        Class<?> type = VarnishNight.class;
        Check.holds("public and final", Modifier.isPublic(type.getModifiers()) && Modifier.isFinal(type.getModifiers()));
        Set<String> found = new TreeSet<>();
        for (Method m : type.getDeclaredMethods()) {
            if (!Modifier.isPrivate(m.getModifiers())) {
                List<String> types = new ArrayList<>();
                for (Class<?> p : m.getParameterTypes()) {
                    types.add(p.getName());
                }
                found.add(m.getReturnType().getName() + " " + m.getName() + "(" + String.join(", ", types) + ")");
                Check.holds(m + " is public, no more", m.getModifiers() == Modifier.PUBLIC);
            }
        }
        Check.holds("the methods are those of the face: " + found, found.equals(new TreeSet<>(List.of(FACE))));
        Constructor<?>[] made = type.getDeclaredConstructors();
        Check.due("constructors", made.length, 1);
        Check.holds("it takes nothing and is public",
                made[0].getParameterCount() == 0 && Modifier.isPublic(made[0].getModifiers()));
        for (Field f : type.getDeclaredFields()) {
            Check.holds(f + " is private", Modifier.isPrivate(f.getModifiers()));
        }
    }

    private static void names() {
        Set<String> open = new HashSet<>();
        for (Method m : VarnishNight.class.getDeclaredMethods()) {
            if (Modifier.isPublic(m.getModifiers())) {
                open.add(m.getName());
            }
        }
        List<Class<?>> all = new ArrayList<>(List.of(VarnishNight.class.getDeclaredClasses()));
        all.add(VarnishNight.class);
        for (Class<?> type : all) {
            for (Method m : type.getDeclaredMethods()) {
                boolean face = type == VarnishNight.class && Modifier.isPublic(m.getModifiers());
                Check.holds(m + " has a name of its own", face || !open.contains(m.getName()));
                Check.holds(m + " takes at most seven", m.getParameterCount() <= 7);
            }
        }
    }

    private static void classes() {
        Class<?>[] inside = VarnishNight.class.getDeclaredClasses();
        Check.holds("some twelve classes", inside.length <= 11);
        List<Class<?>> all = new ArrayList<>(List.of(inside));
        for (Class<?> type : all) {
            Check.holds(type + " is static", Modifier.isStatic(type.getModifiers()));
            Check.holds(type + " isn't public", !Modifier.isPublic(type.getModifiers()));
        }
        all.add(VarnishNight.class);
        for (Class<?> type : all) {
            int own = 0;
            for (Field f : type.getDeclaredFields()) {
                boolean shared = Modifier.isStatic(f.getModifiers());
                own += shared ? 0 : 1;
                Check.holds(f + " is a constant", !shared || Modifier.isFinal(f.getModifiers()));
            }
            Check.holds(type + " has some twenty fields", own <= 20);
        }
    }

    private static void text() throws IOException {
        String source = Files.readString(SOURCE);
        Check.holds("signs 1 to 127 alone", source.chars().allMatch(c -> c >= 1 && c <= 127));
        String code = source.replaceAll("(?s)/\\*.*?\\*/", "").replaceAll("//[^\n]*", "").replaceAll("\"[^\"\n]*\"", "\"\"");
        String[] never = {"\\bthrow\\b", "\\btry\\b", "\\bcatch\\b", "\\bsynchronized\\b", "\\bassert\\b", "->", "::",
            "\\bimport\\b", "\\bpackage\\b", "Exact\\b", "\\bSystem\\.(?!arraycopy)", "\\bThread\\b", "\\bprotected\\b",
            "\\bthrows\\b", "\\bstatic\\s*\\{", "@", "\"\"\\s*\\+", "\\+\\s*\"\"", "\\bequals\\b", "\\bhashCode\\b",
            "\\btoString\\b", "\\bwhile\\s*\\(\\s*true", "for\\s*\\(\\s*;"};
        for (String pattern : never) {
            Matcher m = Pattern.compile(pattern).matcher(code);
            Check.holds("no " + pattern, !m.find());
        }
        methodsAreShort(source);
        objectsAreMadeByConstructors(code);
    }

    private static void methodsAreShort(String source) {
        String[] lines = source.split("\n");
        int begin = -1;
        int depth = 0;
        for (int i = 0; i < lines.length; i++) {
            boolean opens = lines[i].matches(" {4,8}[a-z].*[a-zA-Z]\\(.*") && !lines[i].contains(";");
            if (opens && begin < 0) {
                begin = i;
                depth = lines[i].indexOf(lines[i].trim());
            }
            if (begin >= 0 && lines[i].equals(" ".repeat(depth) + "}")) {
                Check.holds("line " + begin + ": some sixty lines", i - begin <= 60);
                begin = -1;
            }
        }
    }

    private static void objectsAreMadeByConstructors(String code) {
        Matcher methods = Pattern.compile("(?s)\\n( +)[\\w ]*?\\b(\\w+)\\([^)]*\\) \\{\\n(.*?)\\n\\1\\}").matcher(code);
        int seen = 0;
        while (methods.find()) {
            seen++;
            boolean constructor = Character.isUpperCase(methods.group(2).charAt(0));
            Check.holds(methods.group(2) + " makes nothing", constructor || !methods.group(3).matches("(?s).*\\bnew\\b.*"));
        }
        Check.holds("methods were looked at", seen > 60);
    }

    /** All calls of a run live in one room: the dearest ones must not fill it. */
    private static void callsMakeNoObjects() {
        com.sun.management.ThreadMXBean bean = (com.sun.management.ThreadMXBean) ManagementFactory.getThreadMXBean();
        VarnishNight x = new VarnishNight();
        for (int i = 0; i < 8; i++) {
            x.figure(i % 6, 0, i);
        }
        long id = Thread.currentThread().getId();
        dearCalls(x, 3);
        bean.getThreadAllocatedBytes(id);
        long before = bean.getThreadAllocatedBytes(id);
        dearCalls(x, 50);
        long made = bean.getThreadAllocatedBytes(id) - before;
        // What the asking itself makes is some hundred bytes; a row of eight in each call is thousands.
        Check.holds("650 calls made " + made + " bytes", made < 2000);
    }

    private static void dearCalls(VarnishNight x, int times) {
        for (int i = 0; i < times; i++) {
            x.porter(40);
            x.by(40, 8);
            x.kind(0, 60);
            x.place(0, 40);
            x.clash(60);
            x.want(0, 40);
            x.nose(3, 40);
            x.feed(0x696e2030, 4);
            x.night();
            x.sheet(0, 64, 40);
            x.book(0, 0);
            x.read(0, 0);
            x.image();
            x.undo();
        }
    }
}
