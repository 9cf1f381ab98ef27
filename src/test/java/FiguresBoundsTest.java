/** The bounds that promises 5 to 10 name: figure, of, set, seen, turn, as. Each sentence has its own test. */
public final class FiguresBoundsTest {
    private static final int THERE = 3;
    private static final int[] LEAST = {0, 0, 0, 0, 0, 0, -1, 0, 0};
    private static final int[] MOST = {5, 3, 19, 99, 1, 4, THERE - 1, 1, 9999};

    public static void main(String[] args) {
        figureAtItsBounds();
        figureIsAsAtFirst();
        figureBeyond();
        figureFull();
        ofIsOnlyAsked();
        ofBeyond();
        setAtItsBounds();
        setChangesThatAlone();
        setBeyondV();
        setBeyondWhat();
        setBeyondFigure();
        whomIsOneThatIsThere();
        seenOfOneAndOfEight();
        seenBeyond();
        turnAtItsBounds();
        turnBeyond();
        asIsOnlyAsked();
        asBeyond();
        asKind();
        Check.end();
    }

    /** KINDS 0 to 5, PICTURES 0 to 3, COLUMNS 0 to 19: each first and last one, and those beside them. */
    private static void figureAtItsBounds() {
        for (int kind : new int[] {0, 1, 4, 5}) {
            for (int picture : new int[] {0, 1, 2, 3}) {
                for (int column : new int[] {0, 1, 18, 19}) {
                    String call = "figure(" + kind + ", " + picture + ", " + column + ")";
                    VarnishNight x = new VarnishNight();
                    Check.due(call, x.figure(kind, picture, column), 0);
                    Check.due(call + ": kind", x.of(0, 0), kind);
                    Check.due(call + ": picture", x.of(0, 1), picture);
                    Check.due(call + ": column", x.of(0, 2), column);
                }
            }
        }
    }

    /** "a NOSE (0 to 99; 50 at first), a LAMP .. out (0; at first) .." */
    private static void figureIsAsAtFirst() {
        long[] due = {5, 3, 19, 50, 0, 0, -1, 0, 0};
        VarnishNight x = new VarnishNight();
        Twin.rich(x);
        Check.due("one more", x.figure(5, 3, 19), THERE);
        for (int what = 0; what <= 8; what++) {
            Check.due("at first: of(3, " + what + ")", x.of(THERE, what), due[what]);
        }
        Twin.changed("figure(5, 3, 19) then undo()", 2, Twin::rich, y -> {
            y.figure(5, 3, 19);
            return y.undo();
        }, y -> y.undo());
    }

    /** "BEYOND: kind, picture, column." Also with room for none: "in the order in which they are asked". */
    private static void figureBeyond() {
        for (int v : Twin.outside(0, 5)) {
            Twin.refused("figure(" + v + ", 0, 0)", Check.BEYOND, Twin::rich, x -> x.figure(v, 0, 0));
            Twin.refused("a 9th: figure(" + v + ", 0, 0)", Check.BEYOND, Twin::full, x -> x.figure(v, 0, 0));
        }
        for (int v : Twin.outside(0, 3)) {
            Twin.refused("figure(5, " + v + ", 0)", Check.BEYOND, Twin::rich, x -> x.figure(5, v, 0));
            Twin.refused("a 9th: figure(5, " + v + ", 0)", Check.BEYOND, Twin::full, x -> x.figure(5, v, 0));
        }
        for (int v : Twin.outside(0, 19)) {
            Twin.refused("figure(5, 3, " + v + ")", Check.BEYOND, Twin::rich, x -> x.figure(5, 3, v));
            Twin.refused("a 9th: figure(5, 3, " + v + ")", Check.BEYOND, Twin::full, x -> x.figure(5, 3, v));
        }
        Twin.refused("figure(6, 4, 20)", Check.BEYOND, Twin::full, x -> x.figure(6, 4, 20));
    }

    /** "FIGURES 0, 1, .. (at most 8)", "FULL." */
    private static void figureFull() {
        VarnishNight x = new VarnishNight();
        for (int i = 0; i < 8; i++) {
            Check.due("with " + i + " there", x.figure(i % 6, i % 4, i), i);
            Check.due("count(0)", x.count(0), i + 1);
        }
        Check.due("a 9th", x.figure(0, 0, 0), Check.FULL);
        Check.due("count(0)", x.count(0), 8);
        for (int i = 0; i <= 5; i++) {
            int kind = i;
            Twin.refused("a 9th of kind " + kind, Check.FULL, Twin::full, y -> y.figure(kind, 3, 19));
        }
    }

    private static void ofIsOnlyAsked() {
        long[][] due = {
            {0, 0, 8, 20, 1, 1, 1, 0, 2, 2, 0, 1},
            {1, 0, 9, 50, 0, 2, 0, 1, 0, 4, 1, 0},
            {5, 2, 19, 91, 0, 0, -1, 0, 79, 2, 0, 0}};
        for (int i = 0; i < due.length; i++) {
            for (int j = 0; j <= 11; j++) {
                int figure = i;
                int what = j;
                Twin.asked("of(" + i + ", " + j + ")", due[i][j], Twin::rich, x -> x.of(figure, what));
            }
        }
    }

    private static void ofBeyond() {
        for (int what : Twin.outside(0, 11)) {
            Twin.refused("of(0, " + what + ")", Check.BEYOND, Twin::rich, x -> x.of(0, what));
            Twin.refused("of(2, " + what + ")", Check.BEYOND, Twin::rich, x -> x.of(2, what));
        }
        for (int figure : Twin.outside(0, THERE - 1)) {
            for (int what : new int[] {0, 8, 9, 10, 11, 12}) {
                String call = "of(" + figure + ", " + what + ")";
                Twin.refused(call, Check.BEYOND, Twin::rich, x -> x.of(figure, what));
            }
        }
        Twin.refused("of the 9th", Check.BEYOND, Twin::full, x -> x.of(8, 0));
        Check.due("of the 8th", eight().of(7, 2), 14);
    }

    private static VarnishNight eight() {
        VarnishNight x = new VarnishNight();
        Twin.full(x);
        return x;
    }

    /** Each at its least and its greatest, and one from these: "becomes v: what it was". */
    private static void setAtItsBounds() {
        for (int figure = 0; figure < THERE; figure++) {
            for (int what = 1; what <= 8; what++) {
                VarnishNight x = new VarnishNight();
                Twin.rich(x);
                int was = x.of(figure, what);
                for (int v : new int[] {LEAST[what], MOST[what], LEAST[what] + 1, MOST[what] - 1, MOST[what]}) {
                    String call = "set(" + figure + ", " + what + ", " + v + ")";
                    Check.due(call, x.set(figure, what, v), was);
                    Check.due("after " + call, x.of(figure, what), v);
                    was = v;
                }
            }
        }
    }

    /** There and back: then all must be as it was. */
    private static void setChangesThatAlone() {
        for (int i = 0; i < THERE; i++) {
            for (int j = 1; j <= 8; j++) {
                int figure = i;
                int what = j;
                VarnishNight y = new VarnishNight();
                Twin.rich(y);
                int was = y.of(figure, what);
                for (int v : new int[] {LEAST[what], MOST[what]}) {
                    Twin.changed("set(" + i + ", " + j + ", " + v + ") and back", v, Twin::rich, x -> {
                        x.set(figure, what, v);
                        return x.set(figure, what, was);
                    }, x -> Check.due("it was", x.of(figure, what), was));
                }
            }
        }
    }

    private static void setBeyondV() {
        for (int i = 1; i <= 8; i++) {
            int what = i;
            for (int v : Twin.outside(LEAST[what], MOST[what])) {
                String call = "set(1, " + what + ", " + v + ")";
                Twin.refused(call, Check.BEYOND, Twin::rich, x -> x.set(1, what, v));
            }
        }
    }

    /** Only whats 1 to 8: the kind is for turn() alone. */
    private static void setBeyondWhat() {
        for (int what : Twin.outside(1, 8)) {
            for (int v : new int[] {-1, 0, 1}) {
                String call = "set(1, " + what + ", " + v + ")";
                Twin.refused(call, Check.BEYOND, Twin::rich, x -> x.set(1, what, v));
            }
        }
    }

    private static void setBeyondFigure() {
        for (int figure : Twin.outside(0, THERE - 1)) {
            for (int i = 1; i <= 8; i++) {
                int what = i;
                String call = "set(" + figure + ", " + what + ", 0)";
                Twin.refused(call, Check.BEYOND, Twin::rich, x -> x.set(figure, what, 0));
            }
        }
    }

    /** "WHOM (6; -1, or one that is there)": one more there is one more that may be. */
    private static void whomIsOneThatIsThere() {
        VarnishNight x = new VarnishNight();
        int was = -1;
        for (int i = 0; i < 8; i++) {
            x.figure(0, i % 4, 0);
            Check.due("the last there, " + i, x.set(0, 6, i), was);
            Check.due("not the next, " + (i + 1), x.set(0, 6, i + 1), Check.BEYOND);
            Check.due("none below nobody", x.set(0, 6, -2), Check.BEYOND);
            Check.due("it is as it was", x.of(0, 6), i);
            was = i;
        }
        Check.due("nobody", x.set(0, 6, -1), 7);
        Check.due("itself", x.set(7, 6, 7), -1);
        Twin.refused("one that undo() took away", Check.BEYOND, FiguresBoundsTest::undone, y -> y.set(0, 6, 2));
    }

    private static void undone(VarnishNight x) {
        Twin.rich(x);
        x.undo();
    }

    /** "no more than 3 COLUMNS away (its own does, too)", with none, one and eight lamps. */
    private static void seenOfOneAndOfEight() {
        VarnishNight x = new VarnishNight();
        x.figure(0, 0, 0);
        Check.due("alone, out", x.seen(0), 0);
        x.set(0, 4, 1);
        Check.due("alone, lit", x.seen(0), 1);
        for (int i = 1; i < 8; i++) {
            x.figure(0, 0, i % 4);
            x.set(i, 4, 1);
        }
        for (int i = 0; i < 8; i++) {
            Check.due("eight lamps: seen(" + i + ")", x.seen(i), 255);
        }
        x.set(7, 2, 4);
        Check.due("4 away from column 0", x.seen(0), 127);
        Check.due("3 away from column 1", x.seen(1), 255);
        Check.due("0 and 4 are in column 0", x.seen(7), 255 - 1 - 16);
        x.set(7, 1, 1);
        Check.due("in another picture", x.seen(1), 127);
        Check.due("its own is with it", x.seen(7), 128);
        long[] due = {1, 1, 0};
        for (int i = 0; i < THERE; i++) {
            int figure = i;
            Twin.asked("seen(" + figure + ")", due[figure], Twin::rich, y -> y.seen(figure));
        }
    }

    private static void seenBeyond() {
        for (int figure : Twin.outside(0, THERE - 1)) {
            Twin.refused("seen(" + figure + ")", Check.BEYOND, Twin::rich, x -> x.seen(figure));
        }
        Twin.refused("seen(8) of eight", Check.BEYOND, Twin::full, x -> x.seen(8));
    }

    private static void turnAtItsBounds() {
        for (int i = 0; i <= 5; i++) {
            int kind = i;
            VarnishNight x = new VarnishNight();
            Twin.rich(x);
            Check.due("turn(2, " + kind + ")", x.turn(2, kind), 5);
            Check.due("its kind", x.of(2, 0), kind);
            Check.due("turn(2, " + kind + ") again", x.turn(2, kind), kind);
            Twin.changed("turn(1, " + kind + ") and back", kind, Twin::rich, y -> {
                y.turn(1, kind);
                return y.turn(1, 1);
            }, y -> Check.due("it was", y.of(1, 0), 1));
        }
    }

    private static void turnBeyond() {
        for (int kind : Twin.outside(0, 5)) {
            Twin.refused("turn(1, " + kind + ")", Check.BEYOND, Twin::rich, x -> x.turn(1, kind));
        }
        for (int figure : Twin.outside(0, THERE - 1)) {
            for (int kind : new int[] {0, 5, 6}) {
                String call = "turn(" + figure + ", " + kind + ")";
                Twin.refused(call, Check.BEYOND, Twin::rich, x -> x.turn(figure, kind));
            }
        }
        Twin.refused("turn(8, 0) of eight", Check.BEYOND, Twin::full, x -> x.turn(8, 0));
    }

    private static void asIsOnlyAsked() {
        int[][] may = {{0, 0, 20}, {1, 0, 50}, {1, 1, 50}, {2, 0, 91}, {2, 2, 91}, {2, 5, 91}};
        for (int[] m : may) {
            Twin.asked("as(" + m[0] + ", " + m[1] + ")", m[2], Twin::rich, x -> x.as(m[0], m[1]));
        }
        for (int nose : new int[] {0, 1, 98, 99}) {
            VarnishNight x = new VarnishNight();
            x.figure(4, 0, 0);
            x.set(0, 3, nose);
            Check.due("an alderman as a mayor, nose " + nose, x.as(0, 1), nose);
        }
    }

    /** "BEYOND: no such one, kind." Before KIND. */
    private static void asBeyond() {
        for (int kind : Twin.outside(0, 5)) {
            Twin.refused("as(0, " + kind + ")", Check.BEYOND, Twin::rich, x -> x.as(0, kind));
        }
        for (int figure : Twin.outside(0, THERE - 1)) {
            for (int kind : new int[] {0, 5, 6}) {
                String call = "as(" + figure + ", " + kind + ")";
                Twin.refused(call, Check.BEYOND, Twin::rich, x -> x.as(figure, kind));
            }
        }
    }

    /** "KIND: it isn't of that kind, nor of one under it." One above is not one under. */
    private static void asKind() {
        int[][] not = {{0, 1}, {0, 2}, {0, 3}, {0, 4}, {0, 5}, {1, 2}, {1, 3}, {1, 4}, {1, 5}, {2, 1}, {2, 3}, {2, 4}};
        for (int[] n : not) {
            Twin.refused("as(" + n[0] + ", " + n[1] + ")", Check.KIND, Twin::rich, x -> x.as(n[0], n[1]));
        }
    }
}
