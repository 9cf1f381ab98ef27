/** The bounds that promises 11 to 15 name: hours, on, when, all, many. Each sentence has its own test. */
public final class HoursBoundsTest {
    private static final int THERE = 3;
    private static final int[] HOURS_AHEAD = {0, 1, 2, 8, 99, 100, 101, 199, 200};

    public static void main(String[] args) {
        hoursOneByOne();
        hoursOfNobodyAndOfEight();
        hoursBeyond();
        hoursState();
        stateComesAfterBeyond();
        onIsWhatHoursBring();
        onEachThing();
        onBeyond();
        whenAtItsBounds();
        whenBeyond();
        whenNone();
        allAtItsBounds();
        allNone();
        manyIsWhatHoursBring();
        manyAtItsBounds();
        manyBeyond();
        aheadOfTheLastHour();
        Check.end();
    }

    private static void pass(VarnishNight x, int n) {
        for (int left = n; left > 0; left -= 100) {
            x.hours(Math.min(left, 100));
        }
    }

    /** "n HOURS go (1 to 100)": n of them are n times one. */
    private static void hoursOneByOne() {
        for (int i : new int[] {1, 2, 99, 100}) {
            int n = i;
            VarnishNight y = new VarnishNight();
            Twin.rich(y);
            for (int hour = 0; hour < n; hour++) {
                y.hours(1);
            }
            Check.due("the hour after " + n, y.now(0), 3 + n);
            Twin.changed("hours(" + n + ")", y.now(3), Twin::rich, x -> x.hours(n), x -> {
                for (int hour = 0; hour < n; hour++) {
                    x.hours(1);
                }
            });
        }
    }

    private static void hoursOfNobodyAndOfEight() {
        VarnishNight x = new VarnishNight();
        Check.due("nobody: hours(1)", x.hours(1), 0);
        Check.due("nobody: hours(100)", x.hours(100), 0);
        Check.due("nobody: now(0)", x.now(0), 101);
        for (int i = 0; i < 8; i++) {
            x.figure(0, i % 4, i);
        }
        Check.due("eight: hours(1)", x.hours(1), 0);
        Check.due("eight: hours(100)", x.hours(100), 255);
        for (int i = 0; i < 8; i++) {
            // From 5 in the night on: three tacky hours, a night of 4 and 4, and 4 each from 20 to 8.
            Check.due("its nose", x.of(i, 3), 8);
            Check.due("its work", x.of(i, 8), 14);
        }
    }

    private static void hoursBeyond() {
        for (int n : Twin.outside(1, 100)) {
            Twin.refused("hours(" + n + ")", Check.BEYOND, Twin::rich, x -> x.hours(n));
        }
    }

    /** Only with more than 512 calls: the document asks for STATE, so it is told all the same. */
    private static void at(VarnishNight x, int hour) {
        x.figure(0, 0, 0);
        pass(x, hour);
    }

    /** "HOUR: .. (99999 at most)", "STATE: HOUR would be above 99999." */
    private static void hoursState() {
        int[][] tooFar = {{99999, 1}, {99999, 2}, {99999, 100}, {99998, 2}, {99998, 100}, {99900, 100}, {99901, 99}};
        for (int[] t : tooFar) {
            String call = "at " + t[0] + ": hours(" + t[1] + ")";
            Twin.refused(call, Check.STATE, x -> at(x, t[0]), x -> x.hours(t[1]));
        }
        int[][] justSo = {{99998, 1}, {99899, 100}, {99900, 99}, {99901, 98}, {99898, 100}};
        for (int[] j : justSo) {
            VarnishNight x = new VarnishNight();
            at(x, j[0]);
            Check.due("at " + j[0] + ": now(0)", x.now(0), j[0]);
            Check.due("at " + j[0] + ": hours(" + j[1] + ")", x.hours(j[1]), 1);
            Check.due("then: now(0)", x.now(0), j[0] + j[1]);
            Check.due("then: now(1)", x.now(1), (j[0] + j[1]) % 8);
        }
    }

    private static void stateComesAfterBeyond() {
        for (int n : Twin.outside(1, 100)) {
            Twin.refused("at 99999: hours(" + n + ")", Check.BEYOND, x -> at(x, 99999), x -> x.hours(n));
        }
    }

    /** "COLUMN (what 0), NOSE (1), LAMP (2), WORK (3) of one n HOURS (0 to 200) AHEAD." */
    private static void onIsWhatHoursBring() {
        int[] whats = {2, 3, 4, 8};
        for (int i : HOURS_AHEAD) {
            int n = i;
            VarnishNight y = new VarnishNight();
            Twin.rich(y);
            pass(y, n);
            for (int j = 0; j < THERE; j++) {
                for (int k = 0; k <= 3; k++) {
                    int figure = j;
                    int what = k;
                    String call = "on(" + figure + ", " + n + ", " + what + ")";
                    Twin.asked(call, y.of(figure, whats[what]), Twin::rich, x -> x.on(figure, n, what));
                }
            }
        }
    }

    /** Each of the four changes in an hour, and in the hour before it is as it was. */
    private static void onEachThing() {
        int[][] due = {{0, 8, 4}, {1, 50, 46}, {2, 0, 1}, {3, 0, 1}};
        int[] wants = {2, 0, 4, 0};
        for (int i = 0; i < due.length; i++) {
            int[] d = due[i];
            int want = wants[i];
            Twin.asked("on(0, 0, " + d[0] + ")", d[1], x -> wanting(x, want), x -> x.on(0, 0, d[0]));
            Twin.asked("on(0, 1, " + d[0] + ")", d[2], x -> wanting(x, want), x -> x.on(0, 1, d[0]));
        }
    }

    private static void wanting(VarnishNight x, int want) {
        x.figure(0, 0, 8);
        x.figure(3, 0, 9);
        x.set(0, 5, want);
        x.set(0, 6, 1);
    }

    private static void onBeyond() {
        for (int figure : Twin.outside(0, THERE - 1)) {
            Twin.refused("on(" + figure + ", 0, 0)", Check.BEYOND, Twin::rich, x -> x.on(figure, 0, 0));
        }
        for (int n : Twin.outside(0, 200)) {
            Twin.refused("on(0, " + n + ", 0)", Check.BEYOND, Twin::rich, x -> x.on(0, n, 0));
        }
        for (int what : Twin.outside(0, 3)) {
            Twin.refused("on(0, 0, " + what + ")", Check.BEYOND, Twin::rich, x -> x.on(0, 0, what));
            Twin.refused("on(2, 200, " + what + ")", Check.BEYOND, Twin::rich, x -> x.on(2, 200, what));
        }
        Twin.refused("on(8, 200, 3) of eight", Check.BEYOND, Twin::full, x -> x.on(8, 200, 3));
    }

    /** A sitter's nose on tacky paint is 2 less in an hour: any number of hours to 45 can be had. */
    private static void nose(VarnishNight x, int nose) {
        x.figure(0, 0, 0);
        x.set(0, 3, nose);
        x.tacky(0);
    }

    /** "In how many HOURS (0 to 200) one is CONTENT first." Now is 0. */
    private static void whenAtItsBounds() {
        int[][] in = {{0, 0}, {9, 0}, {10, 0}, {11, 1}, {12, 1}, {13, 2}, {14, 2}, {98, 44}, {99, 45}};
        for (int[] i : in) {
            Twin.asked("when(0), nose " + i[0], i[1], x -> nose(x, i[0]), x -> x.when(0));
            Twin.asked("all(), nose " + i[0], i[1], x -> nose(x, i[0]), x -> x.all());
        }
        Twin.asked("when(0)", 0, Twin::rich, x -> x.when(0));
        Twin.asked("the last of eight", 0, HoursBoundsTest::eightOfThemDark, x -> x.when(7));
    }

    private static void eightOfThemDark(VarnishNight x) {
        for (int i = 0; i < 8; i++) {
            x.figure(3, 0, 0);
            x.set(i, 5, 3);
        }
    }

    private static void whenBeyond() {
        for (int figure : Twin.outside(0, THERE - 1)) {
            Twin.refused("when(" + figure + ")", Check.BEYOND, Twin::rich, x -> x.when(figure));
        }
        Twin.refused("when(8) of eight", Check.BEYOND, Twin::full, x -> x.when(8));
        Twin.refused("when(0) of nobody", Check.BEYOND, Twin::empty, x -> x.when(0));
    }

    private static void whenNone() {
        Twin.refused("one that is out", Check.NONE, Twin::rich, x -> x.when(1));
        Twin.refused("a fisher, nose 11", Check.NONE, x -> fisher(x, 11), x -> x.when(0));
        Twin.asked("a fisher, nose 10", 0, x -> fisher(x, 10), x -> x.when(0));
    }

    private static void fisher(VarnishNight x, int nose) {
        x.figure(3, 3, 19);
        x.set(0, 3, nose);
    }

    /** "In how many HOURS (0 to 200) all are CONTENT first." Nobody is all of nobody. */
    private static void allAtItsBounds() {
        Twin.asked("nobody: all()", 0, Twin::empty, x -> x.all());
        Twin.asked("eight that are content", 0, HoursBoundsTest::eightOfThemDark, x -> x.all());
        VarnishNight x = new VarnishNight();
        eightOfThemDark(x);
        x.turn(7, 0);
        x.set(7, 4, 1);
        Check.due("the last lacks an hour", x.all(), 1);
        x.turn(0, 2);
        x.set(0, 4, 1);
        Check.due("the first waits at 0", x.all(), 2);
    }

    private static void allNone() {
        Twin.refused("one is out: all()", Check.NONE, Twin::rich, x -> x.all());
        Twin.refused("a fisher: all()", Check.NONE, x -> fisher(x, 11), x -> x.all());
        VarnishNight x = new VarnishNight();
        eightOfThemDark(x);
        x.set(7, 4, 1);
        Check.due("the last of eight won't", x.all(), Check.NONE);
        x.set(7, 4, 0);
        x.set(0, 4, 1);
        Check.due("the first of eight won't", x.all(), Check.NONE);
    }

    /** "How many are CONTENT n HOURS (0 to 200) AHEAD." */
    private static void manyIsWhatHoursBring() {
        for (int i : HOURS_AHEAD) {
            int n = i;
            VarnishNight y = new VarnishNight();
            Twin.full(y);
            pass(y, n);
            Twin.asked("many(" + n + ")", Integer.bitCount(y.now(3)), Twin::full, x -> x.many(n));
        }
    }

    private static void manyAtItsBounds() {
        Twin.asked("nobody: many(0)", 0, Twin::empty, x -> x.many(0));
        Twin.asked("nobody: many(200)", 0, Twin::empty, x -> x.many(200));
        Twin.asked("eight: many(0)", 8, HoursBoundsTest::eightOfThemDark, x -> x.many(0));
        Twin.asked("eight: many(200)", 8, HoursBoundsTest::eightOfThemDark, x -> x.many(200));
        Twin.asked("an hour too early", 0, x -> nose(x, 99), x -> x.many(44));
        Twin.asked("in time", 1, x -> nose(x, 99), x -> x.many(45));
    }

    private static void manyBeyond() {
        for (int n : Twin.outside(0, 200)) {
            Twin.refused("many(" + n + ")", Check.BEYOND, Twin::rich, x -> x.many(n));
            Twin.refused("nobody: many(" + n + ")", Check.BEYOND, Twin::empty, x -> x.many(n));
        }
    }

    /** "AHEAD: n HOURS go on with all as it is; nothing changes": also in the last hour, which has no STATE there. */
    private static void aheadOfTheLastHour() {
        VarnishNight x = new VarnishNight();
        at(x, 99999);
        x.set(0, 3, 99);
        Check.due("on(0, 1, 1)", x.on(0, 1, 1), 97);
        Check.due("on(0, 2, 1)", x.on(0, 2, 1), 93);
        Check.due("many(200)", x.many(200), 1);
        Check.due("the hour", x.now(0), 99999);
        Check.due("no finding", x.status(-1), 0);
    }
}
