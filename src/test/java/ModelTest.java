import java.util.ArrayList;
import java.util.HashMap;
import java.util.List;
import java.util.Map;
import java.util.Random;

/**
 * Long runs of random calls, each asked of the class and of the model. The seeds are fixed, so every
 * run is the same each time.
 */
public final class ModelTest {
    private static final int RUNS = 400;
    private static final int CALLS = 512;
    private static final String[] NAMES = {
        "tacky", "now", "hangs", "figure", "of", "set", "seen", "turn", "as", "hours", "on", "when", "all", "many",
        "porter", "by", "kind", "place", "clash", "want", "nose", "feed", "wipe", "night", "sheet", "write", "copy",
        "lays", "book", "read", "image", "undo", "tear", "count", "status"};
    private static final int[] STRANGE = {
        Integer.MIN_VALUE, Integer.MAX_VALUE, -2, -1, 8, 9, 20, 21, 40, 41, 60, 61, 100, 101, 200, 201, 1 << 30};

    private final Random random;
    private final VarnishNight x = new VarnishNight();
    private final Model model = new Model();
    private final List<String> calls = new ArrayList<>();
    private final Map<String, Integer> answers;

    private ModelTest(long seed, Map<String, Integer> answers) {
        this.random = new Random(seed);
        this.answers = answers;
    }

    public static void main(String[] args) {
        Map<String, Integer> answers = new HashMap<>();
        for (int seed = 0; seed < RUNS && Check.wrong() == 0; seed++) {
            new ModelTest(seed, answers).run(seed);
        }
        // A run that never met an answer proves nothing of it.
        for (String name : NAMES) {
            Check.holds(name + " was asked", answers.getOrDefault(name, 0) > 100);
        }
        for (String met : new String[] {"clash found", "kind 2", "want 1", "want 2", "want 3", "want 4", "night items",
            "night fault", "read one", "read some", "place right", "porter later", "by later", "nose other", "all later",
            "copy some"}) {
            Check.holds(met + " was met", answers.getOrDefault(met, 0) > 0);
        }
        Check.end();
    }

    private void run(int seed) {
        int figures = random.nextInt(9);
        for (int i = 0; i < figures; i++) {
            ask("figure", random.nextInt(6), random.nextInt(random.nextInt(4) + 1), random.nextInt(20), 0, 0, 0);
        }
        for (int i = calls.size(); i < CALLS; i++) {
            if (!askAny()) {
                System.out.println("run " + seed + ":");
                calls.forEach(System.out::println);
                return;
            }
        }
    }

    private int pick(int low, int high) {
        if (random.nextInt(25) == 0) {
            return STRANGE[random.nextInt(STRANGE.length)];
        }
        return low + random.nextInt(high - low + 1);
    }

    private int someone() {
        return pick(0, Math.max(0, x.count(0) - 1));
    }

    private boolean askAny() {
        // What changes things is asked more often, or nights would all be alike.
        switch (random.nextInt(5)) {
            case 0:
                return askSet();
            case 1:
                return random.nextInt(4) == 0 ? askText() : askNamed(NAMES[random.nextInt(NAMES.length)]);
            default:
                return askNamed(NAMES[random.nextInt(NAMES.length)]);
        }
    }

    private boolean askSet() {
        int[] most = {0, 3, 19, 99, 1, 4, 7, 1, 9999};
        int what = random.nextInt(12) == 0 ? pick(0, 9) : 1 + random.nextInt(8);
        int high = what >= 1 && what <= 8 ? most[what] : 5;
        if (what == 7 && random.nextInt(3) > 0) {
            high = 0;
        }
        return ask("set", someone(), what, pick(what == 6 ? -1 : 0, high), 0, 0, 0);
    }

    private boolean askNamed(String name) {
        int figure = someone();
        int sheet = pick(0, 3);
        switch (name) {
            case "tacky": return ask(name, pick(0, 8), 0, 0, 0, 0, 0);
            case "now": return ask(name, pick(0, 7), 0, 0, 0, 0, 0);
            case "hangs": return ask(name, pick(0, 3), 0, 0, 0, 0, 0);
            case "figure":
                return random.nextInt(6) != 0 || ask(name, pick(0, 5), pick(0, 3), pick(0, 19), 0, 0, 0);
            case "of": return ask(name, figure, pick(0, 11), 0, 0, 0, 0);
            case "set": return askSet();
            case "seen": case "when": return ask(name, figure, 0, 0, 0, 0, 0);
            case "turn": case "as": return ask(name, figure, pick(0, 5), 0, 0, 0, 0);
            case "hours": return ask(name, pick(1, random.nextInt(5) == 0 ? 100 : 5), 0, 0, 0, 0, 0);
            case "on": return ask(name, figure, pick(0, random.nextInt(5) == 0 ? 200 : 20), pick(0, 3), 0, 0, 0);
            case "many": return ask(name, pick(0, random.nextInt(5) == 0 ? 200 : 20), 0, 0, 0, 0, 0);
            case "porter": return ask(name, pick(1, 40), 0, 0, 0, 0, 0);
            case "by": return ask(name, pick(1, 40), pick(0, 8), 0, 0, 0, 0);
            case "kind": return ask(name, figure, pick(1, 60), 0, 0, 0, 0);
            case "place": case "want": return ask(name, figure, pick(1, 40), 0, 0, 0, 0);
            case "clash": return ask(name, pick(1, 60), 0, 0, 0, 0, 0);
            case "nose":
                return random.nextInt(3) != 0 || ask(name, figure, pick(0, 40), 0, 0, 0, 0);
            case "feed": return ask(name, random.nextInt(), pick(1, 4), 0, 0, 0, 0);
            case "sheet":
                return ask(name, sheet, new int[] {0, 8, 16, 64, 64, 64, 32}[random.nextInt(7)], pick(0, 12), 0, 0, 0);
            case "write": return ask(name, sheet, pick(0, 12), 0, 0, 0, random.nextInt(3) == 0 ? random.nextLong() : pick(0, 200));
            case "copy": return ask(name, sheet, pick(0, 4), pick(0, 3), pick(0, 4), pick(0, 6), 0);
            case "lays": return random.nextInt(3) != 0 || ask(name, sheet, 0, 0, 0, 0, 0);
            case "book": return askBook(sheet, figure);
            case "read": return ask(name, sheet, figure, 0, 0, 0, 0);
            case "count": return ask(name, pick(0, 3), 0, 0, 0, 0, 0);
            case "status": return ask(name, pick(-1, 6), 0, 0, 0, 0, 0);
            default: return ask(name, 0, 0, 0, 0, 0, 0);
        }
    }

    /** A sheet that was just booked is one that can be read. */
    private boolean askBook(int sheet, int figure) {
        return ask("book", sheet, figure, 0, 0, 0, 0) && ask("read", sheet, figure, 0, 0, 0, 0);
    }

    private boolean askText() {
        String text = text();
        boolean as = ask("wipe", 0, 0, 0, 0, 0, 0);
        for (int i = 0; i < text.length() && as; i += 4) {
            int n = Math.min(4, text.length() - i);
            int bytes = random.nextInt();
            for (int j = 0; j < n; j++) {
                bytes = bytes << 8 | text.charAt(i + j);
            }
            as = ask("feed", bytes, n, 0, 0, 0, 0);
        }
        return as && ask("night", 0, 0, 0, 0, 0, 0);
    }

    private String text() {
        StringBuilder text = new StringBuilder();
        int items = 1 + random.nextInt(5);
        for (int i = 0; i < items; i++) {
            text.append(i == 0 ? "" : ";").append(item());
        }
        if (random.nextInt(2) == 0) {
            String odd = " ;;09azANnoselit?\t" + (char) 200;
            char c = odd.charAt(random.nextInt(odd.length()));
            int at = random.nextInt(text.length());
            if (random.nextInt(3) == 0) {
                text.deleteCharAt(at);
            } else if (random.nextInt(2) == 0) {
                text.insert(at, c);
            } else {
                text.setCharAt(at, c);
            }
        }
        return text.toString();
    }

    private String item() {
        String[] kinds = {"sitter", "mayor", "wife", "fisher", "alderman", "head"};
        String gap = random.nextInt(4) == 0 ? "  " : " ";
        int there = Math.max(1, x.count(0));
        switch (random.nextInt(6)) {
            case 0:
                return kinds[random.nextInt(6)] + gap + random.nextInt(4) + gap + random.nextInt(20)
                        + (random.nextInt(2) == 0 ? gap + "nose" + gap + random.nextInt(101) : "")
                        + (random.nextInt(2) == 0 ? gap + "lit" : "");
            case 1:
                return "tacky" + gap + random.nextInt(random.nextInt(4) == 0 ? 11 : 9);
            case 2:
                return (random.nextInt(4) == 0 ? "out" : "in") + gap + random.nextInt(there);
            default:
                String[] wants = {"shorter", "lit", "dark", "nearer", "farther"};
                int want = random.nextInt(5);
                return "wants" + gap + random.nextInt(there) + gap + wants[want]
                        + (want >= 3 ? gap + random.nextInt(there) : "") + (random.nextInt(5) == 0 ? gap : "");
        }
    }

    private boolean ask(String name, int a, int b, int c, int d, int e, long v) {
        String call = name + "(" + a + ", " + b + ", " + c + ", " + d + ", " + e + ", " + v + ")";
        long due = model.call(name, a, b, c, d, e, v);
        long got = answer(name, a, b, c, d, e, v);
        calls.add(call + " = " + due);
        note(name, due);
        Check.due(call, got, due);
        return got == due;
    }

    private void note(String name, long due) {
        met(name, true);
        met("clash found", name.equals("clash") && due > 0);
        met(name + " " + due, (name.equals("kind") || name.equals("want")) && due >= 0);
        met("night items", name.equals("night") && due > 2);
        met("night fault", name.equals("night") && due < -1);
        met("read one", name.equals("read") && due == 1);
        met("read some", name.equals("read") && due > 1 && due < 30);
        met("place right", name.equals("place") && due > 10);
        met("porter later", name.equals("porter") && due > 4);
        met("by later", name.equals("by") && due > 4);
        met("nose other", name.equals("nose") && due > 10 && due < 99);
        met("all later", name.equals("all") && due > 5);
        met("copy some", name.equals("copy") && due > 1);
    }

    private void met(String what, boolean is) {
        if (is) {
            answers.merge(what, 1, Integer::sum);
        }
    }

    private long answer(String name, int a, int b, int c, int d, int e, long v) {
        return switch (name) {
            case "tacky" -> x.tacky(a);
            case "now" -> x.now(a);
            case "hangs" -> x.hangs(a);
            case "figure" -> x.figure(a, b, c);
            case "of" -> x.of(a, b);
            case "set" -> x.set(a, b, c);
            case "seen" -> x.seen(a);
            case "turn" -> x.turn(a, b);
            case "as" -> x.as(a, b);
            case "hours" -> x.hours(a);
            case "on" -> x.on(a, b, c);
            case "when" -> x.when(a);
            case "all" -> x.all();
            case "many" -> x.many(a);
            case "porter" -> x.porter(a);
            case "by" -> x.by(a, b);
            case "kind" -> x.kind(a, b);
            case "place" -> x.place(a, b);
            case "clash" -> x.clash(a);
            case "want" -> x.want(a, b);
            case "nose" -> x.nose(a, b);
            case "feed" -> x.feed(a, b);
            case "wipe" -> x.wipe();
            case "night" -> x.night();
            case "sheet" -> x.sheet(a, b, c);
            case "write" -> x.write(a, b, v);
            case "copy" -> x.copy(a, b, c, d, e);
            case "lays" -> x.lays(a);
            case "book" -> x.book(a, b);
            case "read" -> x.read(a, b);
            case "image" -> x.image();
            case "undo" -> x.undo();
            case "tear" -> x.tear();
            case "count" -> x.count(a);
            case "status" -> x.status(a);
            default -> throw new IllegalArgumentException(name);
        };
    }
}
