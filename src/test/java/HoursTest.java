/** Promises 11 to 15, and how an hour goes. */
public final class HoursTest {
    public static void main(String[] args) {
        hours();
        noses();
        nearer();
        farther();
        lamps();
        whoDoesNothing();
        oneAfterTheOther();
        work();
        on();
        when();
        all();
        many();
        aheadChangesNothing();
        Check.end();
    }

    private static VarnishNight withOne(int kind, int column) {
        VarnishNight x = new VarnishNight();
        x.figure(kind, 0, column);
        return x;
    }

    private static void hours() {
        VarnishNight x = withOne(0, 0);
        Check.due("hours(0)", x.hours(0), Check.BEYOND);
        Check.due("hours(101)", x.hours(101), Check.BEYOND);
        Check.due("hours(-1)", x.hours(-1), Check.BEYOND);
        Check.due("hours(min)", x.hours(Integer.MIN_VALUE), Check.BEYOND);
        Check.due("no hour went", x.now(0), 0);
        Check.due("hours(1)", x.hours(1), 0);
        Check.due("now(0)", x.now(0), 1);
        Check.due("hours(100)", x.hours(100), 1);
        Check.due("now(0)", x.now(0), 101);
        // Only with more than 512 calls: the document asks for STATE, so it is told all the same.
        for (int i = 0; i < 998; i++) {
            x.hours(100);
        }
        Check.due("late", x.now(0), 99901);
        Check.due("hours(99)", x.hours(99), Check.STATE);
        Check.due("hours(0)", x.hours(0), Check.BEYOND);
        Check.due("hours(98)", x.hours(98), 1);
        Check.due("the last hour", x.now(0), 99999);
        Check.due("hours(1)", x.hours(1), Check.STATE);
        Check.due("status(4)", x.status(4), 2);
        Check.due("on(0, 200, 1)", x.on(0, 200, 1), x.of(0, 3));
    }

    private static void noses() {
        VarnishNight x = withOne(0, 0);
        int[] left = {46, 42, 38, 34, 32, 30, 28, 26, 22, 18, 14, 10, 10};
        for (int i = 0; i < left.length; i++) {
            x.hours(1);
            Check.due("a sitter's nose in hour " + i, x.of(0, 3), left[i]);
        }
        x = withOne(4, 0);
        x.set(0, 3, 11);
        x.hours(1);
        Check.due("an alderman's", x.of(0, 3), 3);
        x.set(0, 3, 99);
        x.hours(1);
        Check.due("an alderman's 99", x.of(0, 3), 83);
        x = withOne(4, 0);
        x.set(0, 3, 12);
        x.tacky(0);
        x.hours(1);
        Check.due("an alderman's on tacky paint", x.of(0, 3), 10);
        x = withOne(5, 0);
        for (int i = 1; i < 8; i++) {
            x.figure(0, 0, 0);
            x.set(i, 3, 0);
        }
        x.hours(1);
        Check.due("a head's at 0", x.of(0, 3), 50);
        x.hours(1);
        Check.due("a head's in a crowd", x.of(0, 3), 39);
        x.set(0, 3, 11);
        x.hours(1);
        Check.due("a nose is 0 at least", x.of(0, 3), 0);
    }

    private static int columnAfter(int want, int mine, int its, int tacky) {
        VarnishNight x = withOne(0, mine);
        x.figure(0, 0, its);
        x.set(1, 3, 0);
        x.set(0, 5, want);
        x.set(0, 6, 1);
        x.tacky(tacky);
        x.hours(1);
        Check.due("the other one stays", x.of(1, 2), its);
        Check.due("work", x.of(0, 8), x.of(0, 2) == mine ? 0 : 1);
        return x.of(0, 2);
    }

    private static void nearer() {
        for (int mine = 0; mine <= 19; mine++) {
            for (int its = 0; its <= 19; its++) {
                for (int rub = 2; rub <= 4; rub += 2) {
                    int want = mine;
                    for (int i = 0; i < rub && Math.abs(want - its) > 1; i++) {
                        want += want < its ? 1 : -1;
                    }
                    String call = mine + " nearer to " + its + " by " + rub;
                    Check.due(call, columnAfter(1, mine, its, rub == 2 ? 0 : 8), want);
                }
            }
        }
    }

    private static void farther() {
        Check.due("in its column: to the left", columnAfter(2, 9, 9, 8), 5);
        Check.due("in column 0 of both", columnAfter(2, 0, 0, 8), 0);
        Check.due("in column 19 of both", columnAfter(2, 19, 19, 8), 15);
        Check.due("left of it", columnAfter(2, 8, 9, 8), 4);
        Check.due("left of it, at the edge", columnAfter(2, 2, 9, 8), 0);
        Check.due("left of it, in the corner", columnAfter(2, 0, 9, 8), 0);
        Check.due("right of it", columnAfter(2, 10, 9, 8), 14);
        Check.due("right of it, tacky", columnAfter(2, 10, 9, 0), 12);
        Check.due("right of it, at the edge", columnAfter(2, 18, 17, 8), 19);
        Check.due("right of it, in the corner", columnAfter(2, 19, 17, 8), 19);
        Check.due("far enough", columnAfter(2, 10, 0, 8), 10);
        Check.due("not quite", columnAfter(2, 9, 0, 8), 13);
    }

    private static void lamps() {
        VarnishNight x = withOne(0, 0);
        x.set(0, 5, 4);
        Check.due("it is lit", x.hours(1), 1);
        Check.due("of(0, 4)", x.of(0, 4), 1);
        Check.due("work", x.of(0, 8), 1);
        x.set(0, 5, 3);
        Check.due("it is out", x.hours(1), 1);
        Check.due("of(0, 4)", x.of(0, 4), 0);
        Check.due("work", x.of(0, 8), 2);
        Check.due("nothing more", x.hours(10), 1);
        Check.due("work", x.of(0, 8), 2);
        x = withOne(3, 0);
        x.set(0, 5, 4);
        Check.due("a fisher won't", x.hours(100), 0);
        Check.due("of(0, 4)", x.of(0, 4), 0);
    }

    private static void whoDoesNothing() {
        VarnishNight x = withOne(0, 0);
        x.set(0, 7, 1);
        Check.due("one that is out", x.hours(5), 0);
        Check.due("its nose", x.of(0, 3), 50);
        x.set(0, 7, 0);
        x.hours(1);
        Check.due("let in", x.of(0, 3), 48);
        x = withOne(2, 0);
        x.hours(1);
        Check.due("a wife waits at 0", x.of(0, 3), 50);
        x.hours(1);
        Check.due("not at 1", x.of(0, 3), 46);
        x = withOne(1, 0);
        x.figure(0, 0, 3);
        x.set(1, 4, 1);
        x.set(1, 7, 1);
        x.hours(1);
        Check.due("a mayor in the light", x.of(0, 3), 50);
        x.set(1, 2, 4);
        x.hours(1);
        Check.due("a mayor in the dark", x.of(0, 3), 44);
    }

    /** Each goes by all as it is then, not as it was when the hour began. */
    private static void oneAfterTheOther() {
        VarnishNight x = withOne(0, 0);
        x.figure(1, 0, 1);
        x.set(0, 4, 1);
        x.set(0, 5, 3);
        x.hours(1);
        Check.due("a lamp put out before the mayor's turn", x.of(1, 3), 44);
        x = withOne(1, 1);
        x.figure(0, 0, 0);
        x.set(1, 4, 1);
        x.set(1, 5, 3);
        x.hours(1);
        Check.due("a lamp put out after the mayor's turn", x.of(0, 3), 50);
        x = withOne(0, 0);
        x.figure(0, 0, 10);
        x.set(0, 5, 1);
        x.set(0, 6, 1);
        x.set(1, 5, 1);
        x.set(1, 6, 0);
        x.hours(1);
        Check.due("0 comes nearer", x.of(0, 2), 4);
        Check.due("1, too", x.of(1, 2), 6);
        Check.due("both content", x.hours(1), 3);
        Check.due("0 has come near enough for 1", x.of(0, 2) * 100 + x.of(1, 2), 506);
        Check.due("1 had nothing to do", x.of(0, 8) * 10 + x.of(1, 8), 21);
    }

    private static void work() {
        VarnishNight x = withOne(0, 0);
        x.set(0, 8, 9998);
        x.hours(1);
        Check.due("work", x.of(0, 8), 9999);
        x.hours(1);
        Check.due("work is held", x.of(0, 8), 9999);
        Check.due("but the nose goes on", x.of(0, 3), 42);
    }

    private static void on() {
        VarnishNight x = withOne(0, 0);
        x.figure(1, 0, 10);
        x.set(0, 5, 1);
        x.set(0, 6, 1);
        x.set(1, 5, 4);
        Check.due("on(0, 0, 0)", x.on(0, 0, 0), 0);
        Check.due("on(0, 1, 0)", x.on(0, 1, 0), 4);
        Check.due("on(0, 3, 0)", x.on(0, 3, 0), 9);
        Check.due("on(0, 200, 0)", x.on(0, 200, 0), 9);
        Check.due("on(0, 200, 1)", x.on(0, 200, 1), 50);
        Check.due("on(1, 0, 2)", x.on(1, 0, 2), 0);
        Check.due("on(1, 1, 2)", x.on(1, 1, 2), 1);
        Check.due("on(0, 2, 3)", x.on(0, 2, 3), 2);
        Check.due("on(0, 200, 3)", x.on(0, 200, 3), 3);
        Check.due("on(2, 0, 0)", x.on(2, 0, 0), Check.BEYOND);
        Check.due("on(-1, 0, 0)", x.on(-1, 0, 0), Check.BEYOND);
        Check.due("on(0, -1, 0)", x.on(0, -1, 0), Check.BEYOND);
        Check.due("on(0, 201, 0)", x.on(0, 201, 0), Check.BEYOND);
        Check.due("on(0, 0, 4)", x.on(0, 0, 4), Check.BEYOND);
        Check.due("on(0, 0, -1)", x.on(0, 0, -1), Check.BEYOND);
        Check.due("status(0)", x.status(0), 6);
    }

    private static void when() {
        VarnishNight x = withOne(0, 0);
        Check.due("when(0)", x.when(0), 12);
        x.hours(11);
        Check.due("when(0)", x.when(0), 1);
        x.hours(1);
        Check.due("when(0)", x.when(0), 0);
        x.turn(0, 3);
        x.set(0, 3, 11);
        Check.due("a fisher: never", x.when(0), Check.NONE);
        Check.due("when(1)", x.when(1), Check.BEYOND);
        Check.due("when(-1)", x.when(-1), Check.BEYOND);
        Check.due("status(3)", x.status(3), 1);
        slow();
    }

    /** The slowest night known: the wife needs 45 hours of 7 in 8, and only then the head its 30. */
    private static void slow() {
        VarnishNight x = new VarnishNight();
        Check.night(x, "head 0 3 nose 99; wife 0 19 nose 99; tacky 0");
        Check.due("the wife", x.when(1), 52);
        Check.due("the head", x.when(0), 86);
        Check.due("all()", x.all(), 86);
        Check.due("many(85)", x.many(85), 1);
        Check.due("many(86)", x.many(86), 2);
    }

    private static void all() {
        VarnishNight x = new VarnishNight();
        Check.due("nobody: all()", x.all(), 0);
        x.figure(0, 0, 0);
        x.figure(0, 1, 0);
        x.set(1, 3, 60);
        // 50 to rub off: 24 in each of two nights, and one hour more.
        Check.due("all()", x.all(), 17);
        x.figure(3, 2, 0);
        Check.due("with a fisher", x.all(), Check.NONE);
        x.set(2, 3, 10);
        Check.due("with a content fisher", x.all(), 17);
        allAtOnce();
    }

    /** One is content only for a while: all must be so in the same hour. */
    private static void allAtOnce() {
        VarnishNight x = withOne(0, 9);
        x.figure(0, 0, 10);
        x.set(0, 5, 1);
        x.set(0, 6, 1);
        x.set(1, 5, 2);
        x.set(1, 6, 0);
        Check.due("when(0)", x.when(0), 0);
        Check.due("when(1)", x.when(1), Check.NONE);
        Check.due("all()", x.all(), Check.NONE);
    }

    private static void many() {
        VarnishNight x = new VarnishNight();
        Check.due("nobody: many(200)", x.many(200), 0);
        for (int i = 0; i < 8; i++) {
            x.figure(0, i % 4, i);
            x.set(i, 3, 10 + 4 * i);
        }
        Check.due("many(0)", x.many(0), 1);
        Check.due("many(1)", x.many(1), 2);
        Check.due("many(4)", x.many(4), 5);
        Check.due("many(5)", x.many(5), 5);
        Check.due("many(6)", x.many(6), 6);
        Check.due("many(200)", x.many(200), 8);
        Check.due("many(201)", x.many(201), Check.BEYOND);
        Check.due("many(-1)", x.many(-1), Check.BEYOND);
    }

    private static void aheadChangesNothing() {
        VarnishNight x = withOne(0, 3);
        x.figure(1, 0, 9);
        x.figure(5, 0, 19);
        x.set(0, 5, 1);
        x.set(0, 6, 1);
        x.set(1, 5, 4);
        String before = Check.told(x);
        x.on(0, 200, 0);
        x.when(2);
        x.all();
        x.many(200);
        x.porter(40);
        x.by(40, 8);
        x.kind(0, 60);
        x.place(0, 40);
        x.clash(60);
        x.want(0, 40);
        x.nose(0, 40);
        x.sheet(0, 64, 40);
        x.book(0, 0);
        x.read(0, 0);
        Check.holds("ahead changes nothing", before.equals(Check.told(x)));
    }
}
