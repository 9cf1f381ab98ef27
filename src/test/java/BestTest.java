/** Promises 16 to 22: what is best. ModelTest asks them of thousands of other nights. */
public final class BestTest {
    public static void main(String[] args) {
        porter();
        porterOfSeveral();
        by();
        kind();
        place();
        clash();
        clashOnlyIfEachIsContentOnce();
        want();
        nose();
        noseIsNotInOrder();
        limits();
        Check.end();
    }

    /** 0 flees from 1, who runs after it: to keep either out is better than neither. */
    private static VarnishNight chase() {
        VarnishNight x = new VarnishNight();
        x.figure(0, 0, 9);
        x.figure(0, 0, 10);
        x.set(0, 5, 2);
        x.set(0, 6, 1);
        x.set(1, 5, 1);
        x.set(1, 6, 0);
        return x;
    }

    private static void porter() {
        VarnishNight x = new VarnishNight();
        Check.due("nobody: porter(1)", x.porter(1), Check.NONE);
        // The last one's lamp keeps the mayors waiting, and it means to light it.
        x.figure(1, 0, 0);
        x.figure(1, 0, 1);
        x.figure(1, 0, 2);
        x.figure(0, 0, 3);
        x.set(3, 5, 4);
        x.turn(3, 0);
        x.set(0, 7, 0);
        Check.due("many(20)", x.many(20), 1);
        Check.due("porter(20)", x.porter(20), 3);
        x.set(3, 7, 1);
        Check.due("3 is out already", x.porter(20), 0);
        for (int i = 0; i < 4; i++) {
            x.set(i, 7, 1);
        }
        Check.due("all are out", x.porter(20), Check.NONE);
        Check.due("porter(41), all out", x.porter(41), Check.BEYOND);
        x.set(2, 7, 0);
        Check.due("only 2 is in", x.porter(20), 2);
        Check.due("nothing changed", x.now(6), 11);
    }

    private static void porterOfSeveral() {
        VarnishNight x = new VarnishNight();
        x.figure(3, 0, 0);
        x.figure(3, 0, 0);
        Check.due("of several the least", x.porter(40), 0);
        x.set(0, 7, 1);
        Check.due("of those that are in", x.porter(40), 1);
    }

    private static void by() {
        VarnishNight x = new VarnishNight();
        x.figure(0, 0, 0);
        x.set(0, 3, 18);
        Check.due("by(1, 0)", x.by(1, 0), 0);
        Check.due("by(1, 1)", x.by(1, 1), Check.NONE);
        Check.due("by(2, 1)", x.by(2, 1), 2);
        Check.due("by(3, 1)", x.by(3, 1), 1);
        Check.due("by(4, 1)", x.by(4, 1), 0);
        Check.due("by(4, 2)", x.by(4, 2), Check.NONE);
        x.set(0, 3, 42);
        Check.due("by(8, 1)", x.by(8, 1), 8);
        Check.due("by(40, 9)", x.by(40, 9), Check.BEYOND);
        Check.due("by(40, -1)", x.by(40, -1), Check.BEYOND);
        Check.due("tacky is as it was", x.tacky(4), 4);
    }

    private static void kind() {
        VarnishNight x = new VarnishNight();
        x.figure(3, 0, 0);
        // A wife misses hours in which the paint is soft, so she needs 14 for what a sitter does in 12.
        Check.due("kind(0, 60)", x.kind(0, 60), 2);
        Check.due("12 hours: 12 as a sitter, 10 as a wife", x.kind(0, 12), 0);
        Check.due("13 hours", x.kind(0, 13), 0);
        Check.due("15 hours: 13 as a wife", x.kind(0, 15), 2);
        Check.due("kind(0, 1): of several the least", x.kind(0, 1), 0);
        Check.due("it is a fisher still", x.of(0, 0), 3);
        x.set(0, 8, 9999);
        Check.due("work is held: of several the least", x.kind(0, 60), 0);
        oneThatGoesNearer();
        kindsThatWait();
    }

    private static void kindsThatWait() {
        VarnishNight x = new VarnishNight();
        Check.night(x, "sitter 0 0 nose 22; wife 0 1 lit; wants 1 dark");
        // Seen till the lamp is out in hour 1: 17, 13, 11, 9, where a sitter does 18, 14, 10.
        Check.due("a mayor that had to wait", x.kind(0, 60), 1);
        x = new VarnishNight();
        Check.night(x, "sitter 0 0 nose 18; sitter 0 0 nose 26");
        // Waits for 1 till hour 4: 15, 12, 9, where a sitter does 14, 10.
        Check.due("a head that had to wait", x.kind(0, 60), 5);
        x = new VarnishNight();
        Check.night(x, "sitter 0 2 nose 31 lit; mayor 0 14 nose 61 lit; wants 0 nearer 1; wants 1 nearer 0; tacky 5");
        // By 10 into the mayor's sight, who stays then; and 1 more in the next even hour.
        Check.due("an alderman that came too close", x.kind(0, 60), 4);
    }

    /** Where the paint is soft at first, one who starts later takes more steps. */
    private static void oneThatGoesNearer() {
        VarnishNight x = new VarnishNight();
        x.figure(0, 0, 0);
        x.figure(0, 0, 19);
        x.set(0, 5, 1);
        x.set(0, 6, 1);
        x.set(1, 5, 2);
        x.set(1, 6, 0);
        Check.due("18 columns by 4, then 2", x.on(0, 60, 3), 5);
        Check.due("a wife's", x.kind(0, 60), 2);
        x.tacky(0);
        Check.due("by 2 alone: of several the least", x.kind(0, 60), 0);
        x.turn(0, 4);
        Check.due("an alderman's", x.on(0, 60, 3), 5);
    }

    private static void place() {
        VarnishNight x = new VarnishNight();
        x.figure(1, 0, 5);
        x.figure(0, 0, 5);
        x.set(1, 5, 4);
        x.set(1, 4, 1);
        Check.due("many(12)", x.many(12), 1);
        Check.due("the lamp had best hang away from the mayor", x.place(1, 12), 0);
        x.set(0, 2, 2);
        Check.due("the least that is far enough", x.place(1, 12), 6);
        Check.due("the mayor, too", x.place(0, 12), 0);
        Check.due("it is where it was", x.of(1, 2), 5);
        x.set(0, 3, 0);
        Check.due("anywhere: the least", x.place(1, 12), 0);
        // Far from 16 columns off is only the other edge.
        VarnishNight y = new VarnishNight();
        y.figure(3, 0, 16);
        y.figure(3, 0, 0);
        y.set(0, 3, 0);
        y.set(1, 5, 1);
        y.set(1, 6, 0);
        Check.due("a fisher near to 16", y.place(1, 1), 15);
        y.set(0, 2, 19);
        Check.due("a fisher near to 19", y.place(1, 40), 18);
    }

    private static void clash() {
        VarnishNight x = chase();
        Check.due("nobody: clash(1)", new VarnishNight().clash(1), Check.NONE);
        // 1 is content now; 0 never, for it is cornered at the left.
        Check.due("clash(60) of the chase", x.clash(60), Check.NONE);
        // With 0 left alone for a while it gets away, and 1 is left behind.
        VarnishNight y = new VarnishNight();
        y.figure(3, 0, 0);
        y.figure(0, 0, 1);
        y.set(0, 5, 1);
        y.set(0, 6, 1);
        y.set(1, 5, 2);
        y.set(1, 6, 0);
        Check.due("when(0)", y.when(0), 0);
        Check.due("when(1)", y.when(1), 3);
        Check.due("too early", y.clash(2), Check.NONE);
        Check.due("clash(3)", y.clash(3), 1);
        Check.due("clash(60)", y.clash(60), 1);
        y.figure(3, 3, 0);
        y.figure(3, 0, 0);
        y.set(3, 5, 1);
        y.set(3, 6, 1);
        Check.due("the least of two pairs", y.clash(60), 1);
        y.set(0, 5, 3);
        Check.due("only 1 and 3", y.clash(60), 13);
        Check.due("nothing changed", y.of(1, 2), 1);
        y.set(0, 5, 1);
        Check.due("0 and 1 again", y.clash(60), 1);
        y.set(0, 5, 0);
        y.set(3, 5, 0);
        Check.due("what was asked before is forgotten", y.clash(60), Check.NONE);
    }

    private static void clashOnlyIfEachIsContentOnce() {
        VarnishNight x = new VarnishNight();
        x.figure(3, 0, 0);
        x.figure(0, 0, 0);
        x.set(1, 3, 0);
        Check.due("one is never content", x.clash(60), Check.NONE);
        x.set(0, 3, 0);
        Check.due("both are", x.clash(60), Check.NONE);
    }

    private static void want() {
        VarnishNight x = new VarnishNight();
        x.figure(0, 0, 0);
        Check.due("soon only those that need nothing", x.want(0, 1), 1);
        Check.due("later all: the least", x.want(0, 12), 0);
        x.figure(3, 0, 15);
        x.set(0, 6, 1);
        x.set(1, 3, 0);
        Check.due("far from 1", x.want(0, 1), 2);
        x.set(1, 2, 5);
        Check.due("near in an hour", x.want(0, 1), 1);
        x.set(1, 2, 8);
        Check.due("neither near nor far in an hour, but dark", x.want(0, 1), 3);
        x.set(0, 4, 1);
        x.turn(0, 3);
        Check.due("a fisher with a lamp", x.want(0, 40), 4);
        Check.due("nothing changed", x.of(0, 5), 0);
        // A head waits for all others: a want that makes one content frees it.
        VarnishNight y = new VarnishNight();
        y.figure(3, 0, 0);
        y.figure(5, 0, 9);
        y.set(0, 4, 1);
        Check.due("many(40)", y.many(40), 0);
        Check.due("want(0, 40)", y.want(0, 40), 1);
    }

    private static void nose() {
        VarnishNight x = new VarnishNight();
        x.figure(0, 0, 0);
        Check.due("nose(0, 0)", x.nose(0, 0), 10);
        Check.due("nose(0, 1)", x.nose(0, 1), 14);
        Check.due("nose(0, 4)", x.nose(0, 4), 26);
        Check.due("nose(0, 5)", x.nose(0, 5), 28);
        Check.due("nose(0, 8)", x.nose(0, 8), 34);
        Check.due("nose(0, 40)", x.nose(0, 40), 99);
        x.set(0, 7, 1);
        Check.due("out: nose(0, 40)", x.nose(0, 40), 10);
        x.set(0, 7, 0);
        x.set(0, 5, 3);
        Check.due("another want: nose(0, 40)", x.nose(0, 40), 10);
        x.set(0, 5, 0);
        x.turn(0, 3);
        Check.due("a fisher: nose(0, 40)", x.nose(0, 40), 10);
        Check.due("nothing changed", x.of(0, 3), 50);
    }

    private static void noseIsNotInOrder() {
        VarnishNight x = new VarnishNight();
        x.figure(4, 0, 0);
        // 20 is rubbed by 10, 19 only by 8.
        x.set(0, 3, 19);
        Check.due("19", x.on(0, 1, 1), 11);
        x.set(0, 3, 20);
        Check.due("20", x.on(0, 1, 1), 10);
        Check.due("nose(0, 1)", x.nose(0, 1), 20);
    }

    private static void limits() {
        VarnishNight x = new VarnishNight();
        x.figure(0, 0, 0);
        int wrong = 0;
        for (int n : new int[] {0, 41, -1, Integer.MAX_VALUE, Integer.MIN_VALUE}) {
            Check.due("porter(" + n + ")", x.porter(n), Check.BEYOND);
            Check.due("by(" + n + ", 0)", x.by(n, 0), Check.BEYOND);
            Check.due("place(0, " + n + ")", x.place(0, n), Check.BEYOND);
            Check.due("want(0, " + n + ")", x.want(0, n), Check.BEYOND);
            wrong += 4;
        }
        for (int n : new int[] {0, 61, -1}) {
            Check.due("kind(0, " + n + ")", x.kind(0, n), Check.BEYOND);
            Check.due("clash(" + n + ")", x.clash(n), Check.BEYOND);
            wrong += 2;
        }
        for (int n : new int[] {41, -1}) {
            Check.due("nose(0, " + n + ")", x.nose(0, n), Check.BEYOND);
            wrong += 1;
        }
        for (int figure : new int[] {-1, 1, 8, Integer.MAX_VALUE}) {
            Check.due("kind(" + figure + ", 1)", x.kind(figure, 1), Check.BEYOND);
            Check.due("place(" + figure + ", 1)", x.place(figure, 1), Check.BEYOND);
            Check.due("want(" + figure + ", 1)", x.want(figure, 1), Check.BEYOND);
            Check.due("nose(" + figure + ", 1)", x.nose(figure, 1), Check.BEYOND);
            wrong += 4;
        }
        Check.due("status(0)", x.status(0), wrong);
        Check.due("status(-1)", x.status(-1), wrong);
        Check.due("porter(40)", x.porter(40), 0);
        Check.due("by(40, 8)", x.by(40, 8), Check.NONE);
        Check.due("kind(0, 60)", x.kind(0, 60), 2);
        Check.due("clash(60)", x.clash(60), Check.NONE);
        Check.due("nose(0, 0)", x.nose(0, 0), 10);
    }
}
