import java.util.ArrayList;
import java.util.List;
import java.util.TreeMap;
import java.util.function.Consumer;
import java.util.regex.Matcher;
import java.util.regex.Pattern;

/**
 * The document written a second time, with all that the library has and as unlike the class as can
 * be: kinds are classes, nights are copied whole, texts are cut into tokens first, and findings are
 * thrown. ModelTest asks both.
 */
final class Model {
    private static final String[] NAMES = {"sitter", "mayor", "wife", "fisher", "alderman", "head"};

    private static final class Finding extends RuntimeException {
        private static final long serialVersionUID = 1L;
        private final int which;

        Finding(int which) {
            super(null, null, false, false);
            this.which = which;
        }
    }

    static class Sitter {
        int rubs(Night night, Figure me) {
            return 4 - 2 * night.t();
        }

        boolean waits(Night night, Figure me) {
            return false;
        }
    }

    static class Mayor extends Sitter {
        @Override
        int rubs(Night night, Figure me) {
            return super.rubs(night, me) + me.nose / 20;
        }

        @Override
        boolean waits(Night night, Figure me) {
            return night.lamps(me).stream().anyMatch(other -> other != me);
        }
    }

    static class Wife extends Sitter {
        @Override
        boolean waits(Night night, Figure me) {
            return night.hour % 8 == 0;
        }
    }

    static class Fisher extends Sitter {
        @Override
        int rubs(Night night, Figure me) {
            return 0;
        }

        @Override
        boolean waits(Night night, Figure me) {
            return true;
        }
    }

    static class Alderman extends Mayor {
        @Override
        int rubs(Night night, Figure me) {
            return super.rubs(night, me) * (night.t() == 0 ? 2 : 1);
        }

        @Override
        boolean waits(Night night, Figure me) {
            return super.waits(night, me) && night.hour % 8 % 2 == 1;
        }
    }

    static class Head extends Wife {
        @Override
        int rubs(Night night, Figure me) {
            return super.rubs(night, me) + night.others(me).size();
        }

        @Override
        boolean waits(Night night, Figure me) {
            return super.waits(night, me) || night.others(me).stream().anyMatch(other -> !night.content(other));
        }
    }

    private static final List<Sitter> KINDS =
            List.of(new Sitter(), new Mayor(), new Wife(), new Fisher(), new Alderman(), new Head());

    static final class Figure {
        int kind;
        int picture;
        int column;
        int nose = 50;
        int lamp = 0;
        int want = 0;
        int whom = -1;
        int out = 0;
        int work = 0;

        Figure(int kind, int picture, int column) {
            this.kind = kind;
            this.picture = picture;
            this.column = column;
        }

        Figure copy() {
            Figure f = new Figure(kind, picture, column);
            f.nose = nose;
            f.lamp = lamp;
            f.want = want;
            f.whom = whom;
            f.out = out;
            f.work = work;
            return f;
        }

        boolean same(Figure o) {
            return column == o.column && nose == o.nose && lamp == o.lamp;
        }
    }

    static final class Night {
        int hour = 0;
        int tacky = 4;
        final List<Figure> figures = new ArrayList<>();

        Night copy() {
            Night n = new Night();
            n.hour = hour;
            n.tacky = tacky;
            figures.forEach(f -> n.figures.add(f.copy()));
            return n;
        }

        int t() {
            return hour % 8 >= tacky ? 1 : 0;
        }

        List<Figure> others(Figure me) {
            return figures.stream().filter(f -> f != me && f.picture == me.picture).toList();
        }

        List<Figure> lamps(Figure me) {
            return figures.stream()
                    .filter(f -> f.picture == me.picture && f.lamp == 1)
                    .filter(f -> f.column >= me.column - 3 && f.column <= me.column + 3)
                    .toList();
        }

        boolean content(Figure me) {
            if (me.want == 0) {
                return me.nose <= 10;
            }
            if (me.want >= 3) {
                return me.lamp == me.want - 3;
            }
            if (me.whom < 0) {
                return true;
            }
            Figure whom = figures.get(me.whom);
            if (whom == me || whom.picture != me.picture) {
                return true;
            }
            int apart = Math.max(whom.column, me.column) - Math.min(whom.column, me.column);
            return me.want == 1 ? apart < 2 : apart > 9;
        }

        boolean waits(Figure me) {
            return KINDS.get(me.kind).waits(this, me);
        }

        int rubs(Figure me) {
            return KINDS.get(me.kind).rubs(this, me);
        }

        int contentSet() {
            int set = 0;
            for (int i = 0; i < figures.size(); i++) {
                set += content(figures.get(i)) ? 1 << i : 0;
            }
            return set;
        }

        int contentCount() {
            return (int) figures.stream().filter(this::content).count();
        }

        void goes() {
            for (Figure me : figures) {
                if (me.out == 1 || content(me) || waits(me)) {
                    continue;
                }
                Figure before = me.copy();
                int rubs = rubs(me);
                // A step at a time, so that every edge is met by itself.
                for (int i = 0; i < rubs; i++) {
                    step(me, before);
                }
                if (!me.same(before)) {
                    me.work = me.work == 9999 ? 9999 : me.work + 1;
                }
            }
            hour++;
        }

        private void step(Figure me, Figure before) {
            if (me.want == 0 && me.nose > 0) {
                me.nose--;
            } else if (me.want == 1) {
                int its = figures.get(me.whom).column;
                me.column += its - me.column > 1 ? 1 : me.column - its > 1 ? -1 : 0;
            } else if (me.want == 2) {
                boolean left = before.column <= figures.get(me.whom).column;
                int next = me.column + (left ? -1 : 1);
                me.column = next < 0 || next > 19 ? me.column : next;
            } else if (me.want >= 3) {
                me.lamp = me.want - 3;
            }
        }

        Night ahead(int n) {
            Night night = copy();
            for (int i = 0; i < n; i++) {
                night.goes();
            }
            return night;
        }
    }

    private Night night = new Night();
    private Night kept = null;
    private final StringBuilder tape = new StringBuilder();
    private final Object[] sheets = new Object[4];
    private final int[] findings = new int[7];

    private static final int BEYOND = 0;
    private static final int FULL = 1;
    private static final int KIND = 2;
    private static final int NONE = 3;
    private static final int STATE = 4;
    private static final int MISSING = 5;
    private static final int SIZE = 6;

    private static void ask(boolean is, int finding) {
        if (!is) {
            throw new Finding(finding);
        }
    }

    private static boolean in(int v, int low, int high) {
        return low <= v && v <= high;
    }

    private Figure one(int figure) {
        ask(in(figure, 0, night.figures.size() - 1), BEYOND);
        return night.figures.get(figure);
    }

    private Night with(Consumer<Night> change, int n) {
        Night other = night.copy();
        change.accept(other);
        return other.ahead(n);
    }

    /** The call by its name; the arguments that it hasn't are left out. */
    long call(String name, int a, int b, int c, int d, int e, long v) {
        try {
            return answer(name, a, b, c, d, e, v);
        } catch (Finding f) {
            findings[f.which]++;
            return -1000000001L - f.which;
        }
    }

    private long answer(String name, int a, int b, int c, int d, int e, long v) {
        return switch (name) {
            case "tacky" -> tacky(a);
            case "now" -> now(a);
            case "hangs" -> hangs(a);
            case "figure" -> figure(a, b, c);
            case "of" -> of(a, b);
            case "set" -> set(a, b, c);
            case "seen" -> seen(a);
            case "turn" -> turn(a, b);
            case "as" -> as(a, b);
            case "hours" -> hours(a);
            case "on" -> on(a, b, c);
            case "when" -> when(a);
            case "all" -> all();
            case "many" -> many(a);
            case "porter" -> porter(a);
            case "by" -> by(a, b);
            case "kind" -> kind(a, b);
            case "place" -> place(a, b);
            case "clash" -> clash(a);
            case "want" -> want(a, b);
            case "nose" -> nose(a, b);
            case "feed" -> feed(a, b);
            case "wipe" -> wipe();
            case "night" -> night();
            case "sheet" -> sheet(a, b, c);
            case "write" -> write(a, b, v);
            case "copy" -> copy(a, b, c, d, e);
            case "lays" -> lays(a);
            case "book" -> book(a, b);
            case "read" -> read(a, b);
            case "image" -> image();
            case "undo" -> undo();
            case "tear" -> tear();
            case "count" -> count(a);
            case "status" -> status(a);
            default -> throw new IllegalArgumentException(name);
        };
    }

    private int tacky(int v) {
        ask(in(v, 0, 8), BEYOND);
        int was = night.tacky;
        night.tacky = v;
        return was;
    }

    private int bits(java.util.function.Predicate<Figure> is) {
        int set = 0;
        for (Figure f : night.figures) {
            set |= is.test(f) ? 1 << night.figures.indexOf(f) : 0;
        }
        return set;
    }

    private int now(int what) {
        ask(in(what, 0, 7), BEYOND);
        return switch (what) {
            case 0 -> night.hour;
            case 1 -> night.hour % 8;
            case 2 -> night.t();
            case 3 -> bits(night::content);
            case 4 -> bits(night::waits);
            case 5 -> bits(f -> !night.lamps(f).isEmpty());
            case 6 -> bits(f -> f.out == 1);
            default -> night.figures.stream().mapToInt(f -> f.work).sum();
        };
    }

    private int hangs(int picture) {
        ask(in(picture, 0, 3), BEYOND);
        return bits(f -> f.picture == picture);
    }

    private int figure(int kind, int picture, int column) {
        ask(in(kind, 0, 5), BEYOND);
        ask(in(picture, 0, 3), BEYOND);
        ask(in(column, 0, 19), BEYOND);
        ask(night.figures.size() < 8, FULL);
        night.figures.add(new Figure(kind, picture, column));
        return night.figures.size() - 1;
    }

    private int of(int figure, int what) {
        Figure f = one(figure);
        ask(in(what, 0, 11), BEYOND);
        return new int[] {f.kind, f.picture, f.column, f.nose, f.lamp, f.want, f.whom, f.out, f.work, night.rubs(f),
            night.waits(f) ? 1 : 0, night.content(f) ? 1 : 0}[what];
    }

    private int set(int figure, int what, int v) {
        Figure f = one(figure);
        ask(in(what, 1, 8), BEYOND);
        int was = of(figure, what);
        switch (what) {
            case 1 -> {
                ask(in(v, 0, 3), BEYOND);
                f.picture = v;
            }
            case 2 -> {
                ask(in(v, 0, 19), BEYOND);
                f.column = v;
            }
            case 3 -> {
                ask(in(v, 0, 99), BEYOND);
                f.nose = v;
            }
            case 4 -> {
                ask(in(v, 0, 1), BEYOND);
                f.lamp = v;
            }
            case 5 -> {
                ask(in(v, 0, 4), BEYOND);
                f.want = v;
            }
            case 6 -> {
                ask(in(v, -1, night.figures.size() - 1), BEYOND);
                f.whom = v;
            }
            case 7 -> {
                ask(in(v, 0, 1), BEYOND);
                f.out = v;
            }
            default -> {
                ask(in(v, 0, 9999), BEYOND);
                f.work = v;
            }
        }
        return was;
    }

    private int seen(int figure) {
        List<Figure> lamps = night.lamps(one(figure));
        return bits(lamps::contains);
    }

    private int turn(int figure, int kind) {
        Figure f = one(figure);
        ask(in(kind, 0, 5), BEYOND);
        int was = f.kind;
        f.kind = kind;
        return was;
    }

    private int as(int figure, int kind) {
        Figure f = one(figure);
        ask(in(kind, 0, 5), BEYOND);
        ask(KINDS.get(kind).getClass().isInstance(KINDS.get(f.kind)), KIND);
        return f.nose;
    }

    private int hours(int n) {
        ask(in(n, 1, 100), BEYOND);
        ask(night.hour + n <= 99999, STATE);
        night = night.ahead(n);
        return night.contentSet();
    }

    private int on(int figure, int n, int what) {
        one(figure);
        ask(in(n, 0, 200), BEYOND);
        ask(in(what, 0, 3), BEYOND);
        Figure f = night.ahead(n).figures.get(figure);
        return new int[] {f.column, f.nose, f.lamp, f.work}[what];
    }

    private int first(java.util.function.Predicate<Night> is) {
        Night other = night.copy();
        for (int n = 0; n <= 200; n++) {
            if (is.test(other)) {
                return n;
            }
            other.goes();
        }
        throw new Finding(NONE);
    }

    private int when(int figure) {
        one(figure);
        return first(other -> other.content(other.figures.get(figure)));
    }

    private int all() {
        return first(other -> other.figures.stream().allMatch(other::content));
    }

    private int many(int n) {
        ask(in(n, 0, 200), BEYOND);
        return night.ahead(n).contentCount();
    }

    private static int leastOfGreatest(TreeMap<Integer, Integer> scores) {
        int most = scores.values().stream().max(Integer::compare).orElseThrow(() -> new Finding(NONE));
        return scores.keySet().stream().filter(key -> scores.get(key) == most).findFirst().orElseThrow();
    }

    private int porter(int n) {
        ask(in(n, 1, 40), BEYOND);
        TreeMap<Integer, Integer> scores = new TreeMap<>();
        for (int i = 0; i < night.figures.size(); i++) {
            int who = i;
            if (night.figures.get(i).out == 0) {
                scores.put(i, with(other -> other.figures.get(who).out = 1, n).contentCount());
            }
        }
        return leastOfGreatest(scores);
    }

    private int by(int n, int v) {
        ask(in(n, 1, 40), BEYOND);
        ask(in(v, 0, 8), BEYOND);
        for (int t = 0; t <= 8; t++) {
            int tacky = t;
            if (with(other -> other.tacky = tacky, n).contentCount() >= v) {
                return t;
            }
        }
        throw new Finding(NONE);
    }

    private int kind(int figure, int n) {
        one(figure);
        ask(in(n, 1, 60), BEYOND);
        TreeMap<Integer, Integer> scores = new TreeMap<>();
        for (int i = 0; i <= 5; i++) {
            int kind = i;
            scores.put(i, with(other -> other.figures.get(figure).kind = kind, n).figures.get(figure).work);
        }
        return leastOfGreatest(scores);
    }

    private int place(int figure, int n) {
        one(figure);
        ask(in(n, 1, 40), BEYOND);
        TreeMap<Integer, Integer> scores = new TreeMap<>();
        for (int i = 0; i <= 19; i++) {
            int column = i;
            scores.put(i, with(other -> other.figures.get(figure).column = column, n).contentCount());
        }
        return leastOfGreatest(scores);
    }

    private int clash(int n) {
        ask(in(n, 1, 60), BEYOND);
        List<Integer> sets = new ArrayList<>();
        Night other = night.copy();
        for (int i = 0; i <= n; i++) {
            sets.add(other.contentSet());
            other.goes();
        }
        for (int pair = 1; pair < 78; pair++) {
            int a = pair / 10;
            int b = pair % 10;
            if (a < b && b < night.figures.size()
                    && sets.stream().anyMatch(s -> (s & 1 << a) != 0)
                    && sets.stream().anyMatch(s -> (s & 1 << b) != 0)
                    && sets.stream().noneMatch(s -> (s & 1 << a) != 0 && (s & 1 << b) != 0)) {
                return pair;
            }
        }
        throw new Finding(NONE);
    }

    private int want(int figure, int n) {
        one(figure);
        ask(in(n, 1, 40), BEYOND);
        TreeMap<Integer, Integer> scores = new TreeMap<>();
        for (int i = 0; i <= 4; i++) {
            int want = i;
            scores.put(i, with(other -> other.figures.get(figure).want = want, n).contentCount());
        }
        return leastOfGreatest(scores);
    }

    private int nose(int figure, int n) {
        one(figure);
        ask(in(n, 0, 40), BEYOND);
        int greatest = -1;
        for (int i = 0; i <= 99; i++) {
            int nose = i;
            if (with(other -> other.figures.get(figure).nose = nose, n).figures.get(figure).nose <= 10) {
                greatest = i;
            }
        }
        ask(greatest >= 0, NONE);
        return greatest;
    }

    private int feed(int bytes, int n) {
        ask(in(n, 1, 4), BEYOND);
        ask(tape.length() + n <= 120, FULL);
        StringBuilder backwards = new StringBuilder();
        for (int i = 0; i < n; i++) {
            backwards.append((char) (bytes >> (8 * i) & 255));
        }
        tape.append(backwards.reverse());
        return tape.length();
    }

    private int wipe() {
        int had = tape.length();
        tape.setLength(0);
        return had;
    }

    private record Token(char sort, String text, int at) {}

    private static final Pattern TOKEN = Pattern.compile(" +|([a-z]+)|([0-9]+)|(;)|(.)", Pattern.DOTALL);

    private static List<Token> tokens(String text) {
        List<Token> tokens = new ArrayList<>();
        Matcher m = TOKEN.matcher(text);
        while (m.find()) {
            for (int group = 1; group <= 4; group++) {
                if (m.group(group) != null) {
                    tokens.add(new Token("wns?".charAt(group - 1), m.group(group), m.start()));
                }
            }
        }
        tokens.add(new Token('e', "", text.length()));
        return tokens;
    }

    private static final class Fault extends RuntimeException {
        private static final long serialVersionUID = 1L;
        private final int at;

        Fault(int at) {
            super(null, null, false, false);
            this.at = at;
        }
    }

    /** Takes tokens one by one; what can't stand there is thrown as a fault. */
    private static final class Taker {
        private final List<Token> tokens;
        private int next = 0;

        Taker(List<Token> tokens) {
            this.tokens = tokens;
        }

        boolean has(String... words) {
            Token t = tokens.get(next);
            return t.sort == 'w' && List.of(words).contains(t.text);
        }

        String word(String... words) {
            if (!has(words)) {
                throw fault();
            }
            return tokens.get(next++).text;
        }

        int number(int most) {
            Token t = tokens.get(next);
            if (t.sort != 'n' || new java.math.BigInteger(t.text).compareTo(java.math.BigInteger.valueOf(most)) > 0) {
                throw fault();
            }
            next++;
            return Integer.parseInt(t.text);
        }

        boolean ends() {
            return tokens.get(next).sort == 'e';
        }

        void sign() {
            if (tokens.get(next).sort != 's') {
                throw fault();
            }
            next++;
        }

        Fault fault() {
            return new Fault(tokens.get(next).at);
        }
    }

    private int night() {
        String text = tape.toString();
        tape.setLength(0);
        Night other = night.copy();
        Taker taker = new Taker(tokens(text));
        try {
            int items = 1;
            item(taker, other);
            while (!taker.ends()) {
                taker.sign();
                item(taker, other);
                items++;
            }
            night = other;
            return items;
        } catch (Fault f) {
            return -1 - f.at;
        }
    }

    private static void item(Taker taker, Night to) {
        int there = to.figures.size() - 1;
        if (taker.has(NAMES)) {
            if (there == 7) {
                throw taker.fault();
            }
            Figure f = new Figure(List.of(NAMES).indexOf(taker.word(NAMES)), taker.number(3), taker.number(19));
            if (taker.has("nose")) {
                taker.word("nose");
                f.nose = taker.number(99);
            }
            if (taker.has("lit")) {
                taker.word("lit");
                f.lamp = 1;
            }
            to.figures.add(f);
            return;
        }
        switch (taker.word("wants", "out", "in", "tacky")) {
            case "out" -> to.figures.get(taker.number(there)).out = 1;
            case "in" -> to.figures.get(taker.number(there)).out = 0;
            case "tacky" -> to.tacky = taker.number(8);
            default -> {
                Figure f = to.figures.get(taker.number(there));
                List<String> wants = List.of("shorter", "nearer", "farther", "dark", "lit");
                f.want = wants.indexOf(taker.word("shorter", "nearer", "farther", "dark", "lit"));
                if (f.want == 1 || f.want == 2) {
                    f.whom = taker.number(there);
                }
            }
        }
    }

    private static int length(Object row) {
        return java.lang.reflect.Array.getLength(row);
    }

    private static long numberAt(Object row, int i) {
        return java.lang.reflect.Array.getLong(row, i);
    }

    private static void put(Object row, int i, long v) {
        if (row instanceof byte[] r) {
            r[i] = (byte) v;
        } else if (row instanceof short[] r) {
            r[i] = (short) v;
        } else if (row instanceof long[] r) {
            r[i] = v;
        }
    }

    private Object row(int s) {
        ask(in(s, 0, 3), BEYOND);
        ask(sheets[s] != null, MISSING);
        return sheets[s];
    }

    private int sheet(int s, int bits, int n) {
        ask(in(s, 0, 3), BEYOND);
        ask(bits == 0 || bits == 8 || bits == 16 || bits == 64, BEYOND);
        ask(n >= 0, SIZE);
        ask(n <= 40, BEYOND);
        sheets[s] = bits == 0 ? null : bits == 8 ? new byte[n] : bits == 16 ? new short[n] : new long[n];
        return bits == 0 ? 0 : n;
    }

    private long write(int s, int i, long v) {
        Object row = row(s);
        ask(in(i, 0, length(row) - 1), BEYOND);
        long was = numberAt(row, i);
        put(row, i, v);
        return was;
    }

    private int copy(int s, int from, int t, int to, int n) {
        ask(in(s, 0, 3) && in(t, 0, 3), BEYOND);
        ask(sheets[s] != null && sheets[t] != null, MISSING);
        ask(sheets[s].getClass() == sheets[t].getClass(), KIND);
        ask(from >= 0 && to >= 0 && n >= 0, BEYOND);
        ask((long) from + n <= length(sheets[s]) && (long) to + n <= length(sheets[t]), BEYOND);
        List<Long> all = new ArrayList<>();
        for (int i = 0; i < n; i++) {
            all.add(numberAt(sheets[s], from + i));
        }
        for (int i = 0; i < n; i++) {
            put(sheets[t], to + i, all.get(i));
        }
        return n;
    }

    private int lays(int s) {
        Object row = row(s);
        int came = 0;
        for (int i = 0; i < length(row); i++) {
            long v = numberAt(row, i);
            if (i < night.figures.size() && 0 <= v && v <= 99) {
                night.figures.get(i).nose = (int) v;
                came++;
            }
        }
        return came;
    }

    private int book(int s, int figure) {
        Object row = row(s);
        one(figure);
        for (int i = 0; i < length(row); i++) {
            Figure f = night.ahead(i).figures.get(figure);
            put(row, i, 100L * f.column + f.nose);
        }
        return length(row);
    }

    private int read(int s, int figure) {
        Object row = row(s);
        one(figure);
        int pairs = 0;
        for (int pair = 0; pair < 30; pair++) {
            Night other = night.copy();
            Figure f = other.figures.get(figure);
            f.kind = pair / 5;
            f.want = pair % 5;
            boolean so = true;
            for (int i = 0; i < length(row); i++) {
                so &= numberAt(row, i) == 100L * f.column + f.nose;
                other.goes();
            }
            pairs += so ? 1 : 0;
        }
        return pairs;
    }

    private int image() {
        kept = night.copy();
        return 1;
    }

    private int undo() {
        ask(kept != null, NONE);
        night = kept.copy();
        return night.figures.size();
    }

    private int tear() {
        int was = kept == null ? 0 : 1;
        kept = null;
        return was;
    }

    private int count(int what) {
        ask(in(what, 0, 3), BEYOND);
        return new int[] {night.figures.size(), tape.length(), night.figures.stream().mapToInt(f -> f.lamp).sum(),
            night.figures.stream().mapToInt(f -> f.nose).sum()}[what];
    }

    private int status(int which) {
        ask(in(which, -1, 6), BEYOND);
        return which < 0 ? java.util.stream.IntStream.of(findings).sum() : findings[which];
    }
}
