/** Promises 5 to 10, and the terms they speak of: figures, rubs, waits, seen, content. */
public final class FiguresTest {
    public static void main(String[] args) {
        figure();
        of();
        set();
        setAsksInOrder();
        seen();
        turn();
        as();
        rubs();
        waits();
        headsWait();
        content();
        contentByColumns();
        Check.end();
    }

    private static void figure() {
        VarnishNight x = new VarnishNight();
        Check.due("figure(-1, 0, 0)", x.figure(-1, 0, 0), Check.BEYOND);
        Check.due("figure(6, 0, 0)", x.figure(6, 0, 0), Check.BEYOND);
        Check.due("figure(0, -1, 0)", x.figure(0, -1, 0), Check.BEYOND);
        Check.due("figure(0, 4, 0)", x.figure(0, 4, 0), Check.BEYOND);
        Check.due("figure(0, 0, -1)", x.figure(0, 0, -1), Check.BEYOND);
        Check.due("figure(0, 0, 20)", x.figure(0, 0, 20), Check.BEYOND);
        Check.due("nobody came of that", x.count(0), 0);
        for (int i = 0; i < 8; i++) {
            Check.due("figure " + i, x.figure(i % 6, i % 4, 19 - i), i);
        }
        for (int i = 0; i < 8; i++) {
            long[] first = {i % 6, i % 4, 19 - i, 50, 0, 0, -1, 0, 0};
            for (int what = 0; what < first.length; what++) {
                Check.due("at first: of(" + i + ", " + what + ")", x.of(i, what), first[what]);
            }
        }
        Check.due("a 9th", x.figure(0, 0, 0), Check.FULL);
        Check.due("a 9th of no kind", x.figure(6, 0, 0), Check.BEYOND);
        Check.due("a 9th in no column", x.figure(0, 0, 20), Check.BEYOND);
        Check.due("status(1)", x.status(1), 1);
        Check.due("status(0)", x.status(0), 8);
    }

    private static void of() {
        VarnishNight x = new VarnishNight();
        x.figure(0, 0, 0);
        Check.due("of(0, 12)", x.of(0, 12), Check.BEYOND);
        Check.due("of(0, -1)", x.of(0, -1), Check.BEYOND);
        Check.due("of(1, 0)", x.of(1, 0), Check.BEYOND);
        Check.due("of(-1, 0)", x.of(-1, 0), Check.BEYOND);
        Check.due("of(1, 9)", x.of(1, 9), Check.BEYOND);
        Check.due("of(8, 8)", x.of(8, 8), Check.BEYOND);
        Check.due("of(max, 8)", x.of(Integer.MAX_VALUE, 8), Check.BEYOND);
        Check.due("of(0, 9)", x.of(0, 9), 4);
        Check.due("of(0, 10)", x.of(0, 10), 0);
        Check.due("of(0, 11)", x.of(0, 11), 0);
    }

    private static void set() {
        int[] first = {0, 0, 0, 50, 0, 0, -1, 0, 0};
        int[] most = {0, 3, 19, 99, 1, 4, 1, 1, 9999};
        VarnishNight x = new VarnishNight();
        x.figure(0, 0, 0);
        x.figure(0, 0, 0);
        for (int what = 1; what <= 8; what++) {
            int least = what == 6 ? -1 : 0;
            String call = "set(1, " + what + ", ";
            Check.due(call + most[what] + ")", x.set(1, what, most[what]), first[what]);
            Check.due(call + "too much)", x.set(1, what, most[what] + 1), Check.BEYOND);
            Check.due(call + "too little)", x.set(1, what, least - 1), Check.BEYOND);
            Check.due(call + "min)", x.set(1, what, Integer.MIN_VALUE), Check.BEYOND);
            Check.due(call + "max)", x.set(1, what, Integer.MAX_VALUE), Check.BEYOND);
            Check.due("it is as it was", x.of(1, what), most[what]);
            Check.due(call + least + ")", x.set(1, what, least), most[what]);
            Check.due("of(1, " + what + ")", x.of(1, what), least);
            Check.due("the other one's", x.of(0, what), first[what]);
        }
    }

    private static void setAsksInOrder() {
        VarnishNight x = new VarnishNight();
        x.figure(0, 0, 0);
        Check.due("set(0, 0, 1): no kind", x.set(0, 0, 1), Check.BEYOND);
        Check.due("set(0, 9, 0)", x.set(0, 9, 0), Check.BEYOND);
        Check.due("set(0, -1, 0)", x.set(0, -1, 0), Check.BEYOND);
        Check.due("set(1, 1, 0)", x.set(1, 1, 0), Check.BEYOND);
        Check.due("set(-1, 1, 0)", x.set(-1, 1, 0), Check.BEYOND);
        Check.due("set(0, 6, 1): not there", x.set(0, 6, 1), Check.BEYOND);
        Check.due("set(0, 6, 0): itself", x.set(0, 6, 0), -1);
        x.figure(0, 0, 0);
        Check.due("set(0, 6, 1): there by now", x.set(0, 6, 1), 0);
        Check.due("status(0)", x.status(0), 6);
        Check.due("status(-1)", x.status(-1), 6);
    }

    private static void seen() {
        VarnishNight x = new VarnishNight();
        x.figure(0, 0, 10);
        x.figure(0, 0, 7);
        x.figure(0, 0, 13);
        x.figure(0, 0, 6);
        x.figure(0, 0, 14);
        x.figure(0, 1, 10);
        for (int i = 0; i < 6; i++) {
            Check.due("no lamps: seen(" + i + ")", x.seen(i), 0);
        }
        for (int i = 1; i < 6; i++) {
            x.set(i, 4, 1);
        }
        Check.due("seen(0)", x.seen(0), 6);
        Check.due("seen(1)", x.seen(1), 10);
        Check.due("seen(2)", x.seen(2), 20);
        Check.due("seen(5)", x.seen(5), 32);
        Check.due("now(5)", x.now(5), 63);
        x.set(0, 4, 1);
        Check.due("its own, too", x.seen(0), 7);
        Check.due("seen(6)", x.seen(6), Check.BEYOND);
        Check.due("seen(-1)", x.seen(-1), Check.BEYOND);
    }

    private static void turn() {
        VarnishNight x = new VarnishNight();
        x.figure(3, 2, 11);
        Check.due("turn(0, 5)", x.turn(0, 5), 3);
        Check.due("turn(0, 5) again", x.turn(0, 5), 5);
        Check.due("turn(0, 0)", x.turn(0, 0), 5);
        Check.due("turn(0, 6)", x.turn(0, 6), Check.BEYOND);
        Check.due("turn(0, -1)", x.turn(0, -1), Check.BEYOND);
        Check.due("turn(1, 0)", x.turn(1, 0), Check.BEYOND);
        Check.due("turn(-1, 0)", x.turn(-1, 0), Check.BEYOND);
        Check.due("of(0, 0)", x.of(0, 0), 0);
        Check.due("nothing else", x.of(0, 1) * 100 + x.of(0, 2), 211);
    }

    private static void as() {
        int[] above = {-1, 0, 0, 0, 1, 2};
        for (int kind = 0; kind <= 5; kind++) {
            VarnishNight x = new VarnishNight();
            x.figure(kind, 0, 0);
            x.set(0, 3, 70 + kind);
            for (int other = 0; other <= 5; other++) {
                boolean is = other == kind || other == 0 || other == above[kind];
                Check.due("kind " + kind + ": as(0, " + other + ")", x.as(0, other), is ? 70 + kind : Check.KIND);
            }
            Check.due("as(0, 6)", x.as(0, 6), Check.BEYOND);
            Check.due("as(0, -1)", x.as(0, -1), Check.BEYOND);
            Check.due("as(1, 0)", x.as(1, 0), Check.BEYOND);
            Check.due("as(-1, 5)", x.as(-1, 5), Check.BEYOND);
        }
    }

    private static void rubs() {
        int[] noses = {0, 19, 20, 39, 40, 59, 60, 79, 80, 99};
        VarnishNight x = new VarnishNight();
        for (int kind = 0; kind <= 5; kind++) {
            x.figure(kind, 0, 0);
        }
        x.figure(0, 1, 0);
        for (int tacky = 0; tacky <= 8; tacky += 8) {
            x.tacky(tacky);
            int sitter = tacky == 0 ? 2 : 4;
            int twice = tacky == 0 ? 1 : 2;
            for (int nose : noses) {
                for (int i = 0; i < 6; i++) {
                    x.set(i, 3, nose);
                }
                String where = ", tacky " + tacky + ", nose " + nose;
                Check.due("sitter" + where, x.of(0, 9), sitter);
                Check.due("mayor" + where, x.of(1, 9), sitter + nose / 20);
                Check.due("wife" + where, x.of(2, 9), sitter);
                Check.due("fisher" + where, x.of(3, 9), 0);
                Check.due("alderman" + where, x.of(4, 9), twice * (sitter + nose / 20));
                Check.due("head" + where, x.of(5, 9), sitter + 5);
            }
        }
        x.set(5, 1, 1);
        Check.due("a head with one other", x.of(5, 9), 5);
        x.set(5, 1, 2);
        Check.due("a head alone", x.of(5, 9), 4);
    }

    private static void waits() {
        VarnishNight x = new VarnishNight();
        for (int kind = 0; kind <= 4; kind++) {
            x.figure(kind, 0, 10);
            x.set(kind, 7, 1);
        }
        x.figure(0, 0, 13);
        x.set(5, 7, 1);
        for (int hour = 0; hour < 9; hour++) {
            int wife = hour % 8 == 0 ? 4 : 0;
            int alderman = hour % 2 == 1 ? 16 : 0;
            Check.due("no lamps at " + hour, x.now(4), 8 + wife);
            x.set(5, 4, 1);
            Check.due("a lamp of another at " + hour, x.now(4), 8 + 2 + wife + alderman);
            x.set(5, 2, 14);
            Check.due("a lamp too far at " + hour, x.now(4), 8 + wife);
            x.set(5, 2, 13);
            x.set(5, 4, 0);
            x.set(1, 4, 1);
            Check.due("the mayor's own lamp at " + hour, x.now(4), 8 + wife + alderman);
            x.set(1, 4, 0);
            x.set(4, 4, 1);
            Check.due("the alderman's own lamp at " + hour, x.now(4), 8 + 2 + wife);
            x.set(4, 4, 0);
            x.hours(1);
        }
    }

    private static void headsWait() {
        VarnishNight x = new VarnishNight();
        x.figure(5, 0, 0);
        x.set(0, 7, 1);
        Check.due("a head at 0", x.of(0, 10), 1);
        x.hours(1);
        Check.due("a head alone, not content itself", x.of(0, 10), 0);
        x.figure(3, 0, 19);
        Check.due("with one that isn't content", x.of(0, 10), 1);
        x.set(1, 7, 1);
        Check.due("also if that one is out", x.of(0, 10), 1);
        x.set(1, 1, 1);
        Check.due("that one in another picture", x.of(0, 10), 0);
        x.set(1, 1, 0);
        x.set(1, 3, 10);
        Check.due("with one that is content", x.of(0, 10), 0);
        x.hours(7);
        Check.due("at 0 again", x.of(0, 10), 1);
    }

    private static void content() {
        VarnishNight x = new VarnishNight();
        x.figure(0, 0, 5);
        x.figure(0, 0, 5);
        Check.due("nose 50", x.of(0, 11), 0);
        x.set(0, 3, 11);
        Check.due("nose 11", x.of(0, 11), 0);
        x.set(0, 3, 10);
        Check.due("nose 10", x.of(0, 11), 1);
        x.set(0, 3, 50);
        for (int want = 1; want <= 2; want++) {
            x.set(0, 5, want);
            x.set(0, 6, -1);
            Check.due("nobody, want " + want, x.of(0, 11), 1);
            x.set(0, 6, 0);
            Check.due("itself, want " + want, x.of(0, 11), 1);
            x.set(0, 6, 1);
            x.set(0, 2, 0);
            x.set(1, 2, 5);
            x.set(1, 1, 3);
            Check.due("in another picture, want " + want, x.of(0, 11), 1);
            x.set(1, 1, 0);
        }
        x.set(0, 5, 3);
        Check.due("want 3, out", x.of(0, 11), 1);
        x.set(0, 4, 1);
        Check.due("want 3, lit", x.of(0, 11), 0);
        x.set(0, 5, 4);
        Check.due("want 4, lit", x.of(0, 11), 1);
        x.set(0, 4, 0);
        Check.due("want 4, out", x.of(0, 11), 0);
    }

    private static void contentByColumns() {
        for (int mine = 0; mine <= 19; mine++) {
            VarnishNight x = new VarnishNight();
            x.figure(0, 0, mine);
            x.figure(0, 0, 0);
            x.set(0, 6, 1);
            for (int its = 0; its <= 19; its++) {
                x.set(1, 2, its);
                int apart = Math.abs(mine - its);
                x.set(0, 5, 1);
                Check.due("want 1, " + mine + " and " + its, x.of(0, 11), apart <= 1 ? 1 : 0);
                x.set(0, 5, 2);
                Check.due("want 2, " + mine + " and " + its, x.of(0, 11), apart >= 10 ? 1 : 0);
            }
        }
    }
}
