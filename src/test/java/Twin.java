import java.util.Arrays;
import java.util.function.Consumer;
import java.util.function.IntPredicate;
import java.util.function.IntUnaryOperator;
import java.util.function.ToLongFunction;
import java.util.stream.IntStream;

/**
 * Two nights made alike. What is refused on one of them must leave it like the other, but for
 * status(); what is only asked must leave it like the other altogether.
 */
final class Twin {
    /** Numbers that a careless test lets pass: as bytes, shorts, shifts or times 9 they wrap around. */
    private static final int[] WRAPS = {
        Integer.MIN_VALUE, Integer.MIN_VALUE + 1, Integer.MIN_VALUE + 8, Integer.MAX_VALUE - 1, Integer.MAX_VALUE,
        32, 64, 256, 65536, 1 << 24, -32, -256, -65536, 954437177, 477218589, -477218588, 1431655766};

    private Twin() {}

    /** Nobody in any picture, the tape empty, no sheet, no image. */
    static void empty(VarnishNight x) {
        Check.holds("a new one", x != null);
    }

    /**
     * Of everything something, and nothing as at first: three figures in hour 3, a text on the
     * tape that tells what is on it, sheets 0 to 2 (3 is missing), and an image unlike what is.
     */
    static void rich(VarnishNight x) {
        Check.night(x, "sitter 0 3 nose 20 lit; mayor 0 9; wants 0 nearer 1; tacky 3; out 1");
        x.image();
        Check.night(x, "head 2 19 nose 99; wants 1 farther 0");
        x.set(2, 8, 77);
        x.hours(3);
        x.sheet(0, 8, 3);
        x.sheet(1, 16, 3);
        x.sheet(2, 64, 2);
        for (int i = 0; i < 3; i++) {
            x.write(0, i, 5 - 6 * i);
            x.write(1, i, 300 * i - 299);
            x.write(2, i, 5000000000L * i - 4);
        }
        Check.feed(x, "tacky 6; in 1; out 2");
    }

    /** As rich, but with eight figures and 120 bytes. */
    static void full(VarnishNight x) {
        rich(x);
        for (int i = 3; i < 8; i++) {
            x.figure(i % 6, i % 4, 2 * i);
        }
        Check.feed(x, " ".repeat(100));
    }

    /** The act answers the finding, which is counted once, and changes nothing else. */
    static void refused(String call, long finding, Consumer<VarnishNight> made, ToLongFunction<VarnishNight> act) {
        VarnishNight one = alike(made);
        VarnishNight other = alike(made);
        int[] before = counts(one);
        Check.due(call, act.applyAsLong(one), finding);
        before[0]++;
        before[(int) (1 + Check.BEYOND - finding)]++;
        Check.same(call + ", status()", Arrays.toString(counts(one)), Arrays.toString(before));
        Check.same("after " + call, everything(one), everything(other));
    }

    /** The act answers so, and changes nothing, status() neither. */
    static void asked(String call, long answer, Consumer<VarnishNight> made, ToLongFunction<VarnishNight> act) {
        VarnishNight one = alike(made);
        VarnishNight other = alike(made);
        int[] before = counts(one);
        Check.due(call, act.applyAsLong(one), answer);
        Check.same(call + ", status()", Arrays.toString(counts(one)), Arrays.toString(before));
        Check.same("after " + call, everything(one), everything(other));
    }

    /** The act answers so, and then all is as if the other act had been done instead. */
    static void changed(String call, long answer, Consumer<VarnishNight> made, ToLongFunction<VarnishNight> act,
            Consumer<VarnishNight> instead) {
        VarnishNight one = alike(made);
        VarnishNight other = alike(made);
        Check.due(call, act.applyAsLong(one), answer);
        instead.accept(other);
        Check.same("after " + call + ", status()", Arrays.toString(counts(one)), Arrays.toString(counts(other)));
        Check.same("after " + call, everything(one), everything(other));
    }

    /** Numbers outside of low to high: just outside, far outside, and those that wrap around. */
    static int[] outside(int low, int high) {
        IntPredicate isOut = v -> v < low || v > high;
        IntUnaryOperator from = v -> low + v;
        IntStream near = IntStream.of(low - 1, low - 2, high + 1, high + 2);
        IntStream far = IntStream.concat(IntStream.of(WRAPS), IntStream.of(WRAPS).map(from));
        return IntStream.concat(near, far).filter(isOut).distinct().toArray();
    }

    private static VarnishNight alike(Consumer<VarnishNight> made) {
        VarnishNight x = new VarnishNight();
        made.accept(x);
        return x;
    }

    private static int[] counts(VarnishNight x) {
        return IntStream.rangeClosed(-1, 6).map(x::status).toArray();
    }

    /** All that can be asked, but for status(); the object is used up by that. */
    static String everything(VarnishNight x) {
        StringBuilder all = new StringBuilder(told(x));
        for (int s = 0; s <= 3; s++) {
            all.append("\n sheet ").append(s).append(':').append(numbers(x, s));
        }
        all.append("\n the text: ").append(x.night()).append(told(x));
        all.append("\n the image: ").append(x.undo()).append(told(x));
        return all.toString();
    }

    private static String told(VarnishNight x) {
        StringBuilder all = new StringBuilder("\n ").append(Check.told(x)).append(" hangs");
        for (int picture = 0; picture <= 3; picture++) {
            all.append(' ').append(x.hangs(picture));
        }
        all.append(" seen");
        int figures = x.count(0);
        for (int figure = 0; figure < figures; figure++) {
            all.append(' ').append(x.seen(figure));
        }
        return all.toString();
    }

    /** Its numbers; a long one written there tells of how many bits they are. */
    private static String numbers(VarnishNight x, int s) {
        StringBuilder all = new StringBuilder();
        long number = 0;
        for (int i = 0; i <= 40 && number != Check.BEYOND && number != Check.MISSING; i++) {
            number = x.write(s, i, 0x1234567812345678L);
            all.append(' ').append(number).append('/').append(x.write(s, i, number));
        }
        return all.toString();
    }
}
