import java.util.function.Consumer;
import java.util.function.IntUnaryOperator;

/**
 * The bounds that promises 16 to 22 name: porter, by, kind, place, clash, want, nose. What is best is
 * found here by trying each with set() and hours(), and taking it back with undo().
 */
public final class BestBoundsTest {
    private static final int THERE = 3;
    private static final int[] TO_40 = {1, 2, 39, 40};
    private static final int[] TO_60 = {1, 2, 59, 60};

    public static void main(String[] args) {
        porterAtItsBounds();
        porterBeyond();
        porterNone();
        byAtItsBounds();
        byBeyond();
        byNone();
        kindAtItsBounds();
        kindBeyond();
        placeAtItsBounds();
        placeBeyond();
        clashAtItsBounds();
        clashAnew();
        clashBeyond();
        clashNone();
        wantAtItsBounds();
        wantBeyond();
        noseAtItsBounds();
        noseBeyond();
        noneAfterBeyond();
        theFortiethHour();
        theSixtiethHour();
        ofSeveralTheLeast();
        Check.end();
    }

    /** The least of 0 to last with which most is told; each is tried on the night itself. */
    private static int best(VarnishNight x, int last, IntUnaryOperator tried) {
        int best = -1;
        int most = -1;
        x.image();
        for (int v = 0; v <= last; v++) {
            int got = tried.applyAsInt(v);
            x.undo();
            if (got > most) {
                most = got;
                best = v;
            }
        }
        return best;
    }

    private static VarnishNight made(Consumer<VarnishNight> by) {
        VarnishNight x = new VarnishNight();
        by.accept(x);
        return x;
    }

    /** Eight that get in each other's light and way. */
    private static void crowd(VarnishNight x) {
        tell(x, "mayor 0 4 nose 99; wife 0 6 nose 88 lit; alderman 0 9 lit; head 0 19; tacky 2");
        tell(x, "sitter 1 3 nose 77 lit; mayor 1 5 nose 66; fisher 1 12; head 1 13 nose 5; out 6");
        tell(x, "wants 1 farther 0; wants 2 nearer 3; wants 4 nearer 6; wants 3 dark; wants 7 lit");
    }

    private static int content(VarnishNight x, int n) {
        return Integer.bitCount(x.hours(n));
    }

    private static int porterTried(VarnishNight x, int n) {
        return best(x, x.count(0) - 1, figure -> x.set(figure, 7, 1) == 1 ? -1 : content(x, n));
    }

    private static int placeTried(VarnishNight x, int figure, int n) {
        return best(x, 19, column -> {
            x.set(figure, 2, column);
            return content(x, n);
        });
    }

    private static int wantTried(VarnishNight x, int figure, int n) {
        return best(x, 4, want -> {
            x.set(figure, 5, want);
            return content(x, n);
        });
    }

    private static int kindTried(VarnishNight x, int figure, int n) {
        return best(x, 5, kind -> {
            x.turn(figure, kind);
            x.hours(n);
            return x.of(figure, 8);
        });
    }

    private static int byTried(VarnishNight x, int n, int v) {
        int tacky = best(x, 8, from -> {
            x.tacky(from);
            return content(x, n) >= v ? 1 : 0;
        });
        x.tacky(tacky);
        return content(x, n) >= v ? tacky : (int) Check.NONE;
    }

    private static int noseTried(VarnishNight x, int figure, int n) {
        return 99 - best(x, 99, less -> {
            x.set(figure, 3, 99 - less);
            return x.on(figure, n, 1) <= 10 ? 1 : 0;
        });
    }

    private static void porterAtItsBounds() {
        for (int n : TO_40) {
            Twin.asked("porter(" + n + ")", porterTried(made(BestBoundsTest::crowd), n), BestBoundsTest::crowd,
                    x -> x.porter(n));
            Twin.asked("rich: porter(" + n + ")", porterTried(made(Twin::rich), n), Twin::rich, x -> x.porter(n));
        }
        Twin.asked("only the last of eight isn't out", 7, x -> out(x, 127), x -> x.porter(40));
        Twin.asked("only the first of eight isn't out", 0, x -> out(x, 254), x -> x.porter(1));
    }

    private static void out(VarnishNight x, int who) {
        for (int i = 0; i < 8; i++) {
            x.figure(0, 0, i);
            x.set(i, 7, who >> i & 1);
        }
    }

    private static void porterBeyond() {
        for (int n : Twin.outside(1, 40)) {
            Twin.refused("porter(" + n + ")", Check.BEYOND, Twin::rich, x -> x.porter(n));
        }
    }

    /** "NONE: all are OUT, or nobody is there." */
    private static void porterNone() {
        for (int n : TO_40) {
            Twin.refused("nobody: porter(" + n + ")", Check.NONE, Twin::empty, x -> x.porter(n));
            Twin.refused("all out: porter(" + n + ")", Check.NONE, x -> out(x, 255), x -> x.porter(n));
        }
    }

    /** "The least TACKY (0 to 8) with which v (0 to 8) or more are CONTENT n HOURS (1 to 40) AHEAD." */
    private static void byAtItsBounds() {
        for (int n : TO_40) {
            for (int i = 0; i <= 8; i++) {
                int v = i;
                int due = byTried(made(BestBoundsTest::crowd), n, v);
                String call = "by(" + n + ", " + v + ")";
                if (due >= 0) {
                    Twin.asked(call, due, BestBoundsTest::crowd, x -> x.by(n, v));
                } else {
                    Twin.refused(call, Check.NONE, BestBoundsTest::crowd, x -> x.by(n, v));
                }
            }
        }
        // A sitter's nose of 10 + 4 * 8 is rubbed off in a night only if it is never tacky; 2 less, if at 7.
        Twin.asked("by(8, 1), nose 42", 8, x -> nose(x, 42), x -> x.by(8, 1));
        Twin.asked("by(8, 1), nose 40", 7, x -> nose(x, 40), x -> x.by(8, 1));
        Twin.asked("by(8, 1), nose 28", 1, x -> nose(x, 28), x -> x.by(8, 1));
        Twin.asked("by(8, 1), nose 26", 0, x -> nose(x, 26), x -> x.by(8, 1));
        Twin.refused("by(8, 1), nose 43", Check.NONE, x -> nose(x, 43), x -> x.by(8, 1));
        Twin.asked("nobody: by(40, 0)", 0, Twin::empty, x -> x.by(40, 0));
        Twin.asked("eight: by(40, 8)", 0, x -> x.lays(eight(x)), x -> x.by(40, 8));
    }

    /** Eight with noses of 0, by a sheet of eight; which sheet. */
    private static int eight(VarnishNight x) {
        for (int i = 0; i < 8; i++) {
            x.figure(i % 6, 0, i);
        }
        x.sheet(1, 8, 8);
        return 1;
    }

    private static void nose(VarnishNight x, int nose) {
        x.figure(0, 0, 0);
        x.set(0, 3, nose);
    }

    private static void byBeyond() {
        for (int n : Twin.outside(1, 40)) {
            Twin.refused("by(" + n + ", 0)", Check.BEYOND, Twin::rich, x -> x.by(n, 0));
            Twin.refused("by(" + n + ", 9)", Check.BEYOND, Twin::rich, x -> x.by(n, 9));
        }
        for (int v : Twin.outside(0, 8)) {
            Twin.refused("by(1, " + v + ")", Check.BEYOND, Twin::rich, x -> x.by(1, v));
            Twin.refused("by(40, " + v + ")", Check.BEYOND, Twin::rich, x -> x.by(40, v));
        }
    }

    private static void byNone() {
        Twin.refused("nobody: by(40, 1)", Check.NONE, Twin::empty, x -> x.by(40, 1));
        Twin.refused("of three one is out: by(40, 3)", Check.NONE, Twin::rich, x -> x.by(40, 3));
        Twin.refused("more than there are: by(40, 4)", Check.NONE, Twin::rich, x -> x.by(40, 4));
        Twin.refused("by(1, 8)", Check.NONE, Twin::rich, x -> x.by(1, 8));
    }

    private static void kindAtItsBounds() {
        for (int n : TO_60) {
            for (int i = 0; i < 8; i++) {
                int figure = i;
                Twin.asked("kind(" + figure + ", " + n + ")", kindTried(made(BestBoundsTest::crowd), figure, n),
                        BestBoundsTest::crowd, x -> x.kind(figure, n));
            }
        }
        Twin.asked("one that is out: the least", 0, Twin::rich, x -> x.kind(1, 60));
        Twin.asked("the first that came", 2, x -> nose(x, 50), x -> x.kind(0, 60));
        // Only a fisher is never best: it does no work.
        String[] best = {"fisher 0 0 nose 12", "sitter 0 0 nose 22; wife 0 1 lit; wants 1 dark", "fisher 0 0", "",
            "sitter 0 2 nose 31 lit; mayor 0 14 nose 61 lit; wants 0 nearer 1; wants 1 nearer 0; tacky 5",
            "sitter 0 0 nose 18; sitter 0 0 nose 26"};
        for (int i = 0; i < best.length; i++) {
            String text = best[i];
            if (!text.isEmpty()) {
                Twin.asked("'" + text + "': kind(0, 60)", i, x -> tell(x, text), x -> x.kind(0, 60));
            }
        }
    }

    private static void kindBeyond() {
        beyond("kind", 1, 60, (x, figure) -> n -> x.kind(figure, n));
    }

    private static void placeAtItsBounds() {
        for (int n : TO_40) {
            for (int i = 0; i < 8; i++) {
                int figure = i;
                Twin.asked("place(" + figure + ", " + n + ")", placeTried(made(BestBoundsTest::crowd), figure, n),
                        BestBoundsTest::crowd, x -> x.place(figure, n));
            }
        }
        // A fisher is content only where it is put: near to one in the corner, or far from it.
        Twin.asked("the first column", 0, x -> fisher(x, 1, 0), x -> x.place(1, 1));
        Twin.asked("the last but one", 18, x -> fisher(x, 1, 19), x -> x.place(1, 40));
        Twin.asked("the last column", 19, x -> fisher(x, 2, 9), x -> x.place(1, 40));
        Twin.asked("the first that is far", 10, x -> fisher(x, 2, 0), x -> x.place(1, 1));
    }

    /** 1, a fisher, who wants so of another one in a column. */
    private static void fisher(VarnishNight x, int want, int column) {
        x.figure(3, 0, column);
        x.figure(3, 0, 5);
        x.set(1, 5, want);
        x.set(1, 6, 0);
    }

    private static void placeBeyond() {
        beyond("place", 1, 40, (x, figure) -> n -> x.place(figure, n));
    }

    private static void wantAtItsBounds() {
        for (int n : TO_40) {
            for (int i = 0; i < 8; i++) {
                int figure = i;
                Twin.asked("want(" + figure + ", " + n + ")", wantTried(made(BestBoundsTest::crowd), figure, n),
                        BestBoundsTest::crowd, x -> x.want(figure, n));
            }
        }
        int[][] wants = {{10, 0, 5, 0}, {11, 0, 4, 1}, {11, 0, 15, 2}, {11, 0, 9, 3}, {11, 1, 9, 4}};
        for (int[] w : wants) {
            Twin.asked("a fisher had best want " + w[3], w[3], x -> {
                fisher(x, 0, w[2]);
                x.set(1, 3, w[0]);
                x.set(1, 4, w[1]);
            }, x -> x.want(1, 40));
        }
    }

    private static void wantBeyond() {
        beyond("want", 1, 40, (x, figure) -> n -> x.want(figure, n));
    }

    /** "The greatest NOSE (0 to 99) of one now with which it is 10 or less n HOURS (0 to 40) AHEAD." */
    private static void noseAtItsBounds() {
        for (int n : new int[] {0, 1, 39, 40}) {
            for (int i = 0; i < THERE; i++) {
                int figure = i;
                Twin.asked("nose(" + figure + ", " + n + ")", noseTried(made(Twin::rich), figure, n), Twin::rich,
                        x -> x.nose(figure, n));
            }
        }
        int[][] tacky = {{0, 10}, {1, 12}, {2, 14}, {39, 88}, {40, 90}};
        for (int[] t : tacky) {
            Twin.asked("tacky: nose(0, " + t[0] + ")", t[1], x -> {
                x.figure(0, 0, 0);
                x.tacky(0);
            }, x -> x.nose(0, t[0]));
        }
        Twin.asked("all of it", 99, x -> nose(x, 50), x -> x.nose(0, 40));
        Twin.asked("a fisher's", 10, x -> fisher(x, 0, 0), x -> x.nose(1, 40));
    }

    private static void noseBeyond() {
        beyond("nose", 0, 40, (x, figure) -> n -> x.nose(figure, n));
    }

    private interface OfOne {
        IntUnaryOperator of(VarnishNight x, int figure);
    }

    /** No such one, or n outside of what is told; both, too. */
    private static void beyond(String name, int least, int most, OfOne call) {
        for (int n : Twin.outside(least, most)) {
            Twin.refused(name + "(2, " + n + ")", Check.BEYOND, Twin::rich, x -> call.of(x, 2).applyAsInt(n));
            Twin.refused(name + "(3, " + n + ")", Check.BEYOND, Twin::rich, x -> call.of(x, 3).applyAsInt(n));
        }
        for (int figure : Twin.outside(0, THERE - 1)) {
            String one = name + "(" + figure + ", ";
            Twin.refused(one + least + ")", Check.BEYOND, Twin::rich, x -> call.of(x, figure).applyAsInt(least));
            Twin.refused(one + most + ")", Check.BEYOND, Twin::rich, x -> call.of(x, figure).applyAsInt(most));
        }
        Twin.refused(name + " of the 9th", Check.BEYOND, Twin::full, x -> call.of(x, 8).applyAsInt(most));
        Twin.refused(name + " of nobody", Check.BEYOND, Twin::empty, x -> call.of(x, 0).applyAsInt(most));
    }

    /**
     * 0, a fisher, is content with 1 beside it, who goes off by 2 in an hour and is content in a
     * number of hours: 0 in column 0 and 1 in column 1 need 5.
     */
    private static void parting(VarnishNight x) {
        x.figure(3, 0, 0);
        x.figure(0, 0, 1);
        x.set(0, 5, 1);
        x.set(0, 6, 1);
        x.set(1, 5, 2);
        x.set(1, 6, 0);
        x.tacky(0);
    }

    /** "both CONTENT never in the same HOUR from now to n (1 to 60) AHEAD, but each in one". */
    private static void clashAtItsBounds() {
        Twin.refused("1 isn't content by then: clash(1)", Check.NONE, BestBoundsTest::parting, x -> x.clash(1));
        Twin.refused("1 isn't content by then: clash(4)", Check.NONE, BestBoundsTest::parting, x -> x.clash(4));
        Twin.asked("in the last hour: clash(5)", 1, BestBoundsTest::parting, x -> x.clash(5));
        Twin.asked("clash(60)", 1, BestBoundsTest::parting, x -> x.clash(60));
        Twin.asked("the last two of eight", 67, BestBoundsTest::lastTwo, x -> x.clash(60));
        Twin.asked("the first and the last of eight", 7, BestBoundsTest::firstAndLast, x -> x.clash(60));
    }

    private static void lastTwo(VarnishNight x) {
        for (int i = 0; i < 6; i++) {
            x.figure(3, 1, i);
        }
        x.figure(3, 0, 0);
        x.figure(0, 0, 1);
        x.set(6, 5, 1);
        x.set(6, 6, 7);
        x.set(7, 5, 2);
        x.set(7, 6, 6);
    }

    private static void firstAndLast(VarnishNight x) {
        x.figure(3, 0, 0);
        for (int i = 1; i < 7; i++) {
            x.figure(3, 1, i);
        }
        x.figure(0, 0, 1);
        x.set(0, 5, 1);
        x.set(0, 6, 7);
        x.set(7, 5, 2);
        x.set(7, 6, 0);
    }

    /** What an earlier clash() found is not in the way of a later one. */
    private static void clashAnew() {
        VarnishNight x = made(BestBoundsTest::firstAndLast);
        Check.due("the first and the last", x.clash(60), 7);
        x.set(7, 7, 1);
        Check.due("the last is out", x.clash(60), Check.NONE);
        x.set(7, 7, 0);
        Check.due("the last is in", x.clash(60), 7);
        x.set(0, 5, 0);
        Check.due("the first has another want", x.clash(60), Check.NONE);
    }

    private static void clashBeyond() {
        for (int n : Twin.outside(1, 60)) {
            Twin.refused("clash(" + n + ")", Check.BEYOND, BestBoundsTest::parting, x -> x.clash(n));
        }
    }

    private static void clashNone() {
        for (int n : TO_60) {
            Twin.refused("nobody: clash(" + n + ")", Check.NONE, Twin::empty, x -> x.clash(n));
            Twin.refused("one: clash(" + n + ")", Check.NONE, x -> nose(x, 10), x -> x.clash(n));
            Twin.refused("none is ever content: clash(" + n + ")", Check.NONE, x -> out(x, 255), x -> x.clash(n));
            Twin.refused("all always are: clash(" + n + ")", Check.NONE, x -> x.lays(eight(x)), x -> x.clash(n));
        }
        Twin.refused("both now, then never: clash(60)", Check.NONE, BestBoundsTest::bothNow, x -> x.clash(60));
        Twin.refused("one now: clash(1)", Check.NONE, BestBoundsTest::oneNowOneLater, x -> x.clash(1));
        Twin.asked("one now, one in two hours: clash(2)", 2, BestBoundsTest::oneNowOneLater, x -> x.clash(2));
    }

    /** 0 and 2, fishers in column 10, are content beside 1 as long as that is there: now. It gets 9 away, no farther. */
    private static void bothNow(VarnishNight x) {
        x.figure(3, 0, 10);
        x.figure(0, 0, 11);
        x.figure(3, 0, 10);
        x.set(0, 5, 1);
        x.set(0, 6, 1);
        x.set(2, 5, 1);
        x.set(2, 6, 1);
        x.set(1, 5, 2);
        x.set(1, 6, 0);
        x.tacky(0);
    }

    /** As that, but 2 wants far from 1, and is so in two hours. */
    private static void oneNowOneLater(VarnishNight x) {
        bothNow(x);
        x.set(2, 2, 5);
        x.set(2, 5, 2);
    }

    /** "in the order in which they are asked": BEYOND first, also where there is none. */
    private static void noneAfterBeyond() {
        for (int n : Twin.outside(1, 40)) {
            Twin.refused("nobody: porter(" + n + ")", Check.BEYOND, Twin::empty, x -> x.porter(n));
            Twin.refused("nobody: by(" + n + ", 8)", Check.BEYOND, Twin::empty, x -> x.by(n, 8));
        }
        for (int n : Twin.outside(1, 60)) {
            Twin.refused("nobody: clash(" + n + ")", Check.BEYOND, Twin::empty, x -> x.clash(n));
        }
        for (int v : Twin.outside(0, 8)) {
            Twin.refused("nobody: by(40, " + v + ")", Check.BEYOND, Twin::empty, x -> x.by(40, v));
        }
    }

    /** 40 hours are 40: a nose of 90 on tacky paint needs just these, one of 91 one more. */
    private static void theFortiethHour() {
        int[][] due = {{90, 40, 1, 0, 0}, {90, 39, 0, 1, 1}, {91, 40, 0, 1, 1}, {92, 40, 0, 1, 1}};
        for (int[] d : due) {
            String where = ", nose " + d[0];
            Check.due("porter(" + d[1] + ")" + where, tackyNose(d[0]).porter(d[1]), d[2]);
            Check.due("want(0, " + d[1] + ")" + where, tackyNose(d[0]).want(0, d[1]), d[3]);
            Check.due("by(" + d[1] + ", 1)" + where, tackyNose(d[0]).by(d[1], 1), d[4]);
        }
        Check.due("place(0, 39), content in 39", slowed(0, 81).place(0, 39), 9);
        Check.due("place(0, 38), content in 39", slowed(0, 81).place(0, 38), 0);
        Check.due("place(0, 40), content in 40", slowed(1, 81).place(0, 40), 9);
        Check.due("place(0, 39), content in 40", slowed(1, 81).place(0, 39), 0);
        Check.due("place(0, 40), content in 41", slowed(0, 87).place(0, 40), 0);
    }

    /** 0, a sitter on tacky paint; 1, a fisher who won't. */
    private static VarnishNight tackyNose(int nose) {
        VarnishNight x = new VarnishNight();
        x.figure(0, 0, 0);
        x.figure(3, 1, 0);
        x.set(0, 3, nose);
        x.tacky(0);
        return x;
    }

    /** 0, a lit fisher, is content beside the alderman 1 alone, whom its lamp lets rub in every other hour. */
    private static VarnishNight slowed(int hours, int nose) {
        VarnishNight x = new VarnishNight();
        tell(x, "fisher 0 0 lit; fisher 0 10; wants 0 nearer 1; tacky 0");
        if (hours > 0) {
            x.hours(hours);
        }
        x.turn(1, 4);
        x.set(1, 3, nose);
        return x;
    }

    /** In the 61st hour the wife 1 would have worked more than a sitter, and meet 0: it is not asked for at 0, but at 1. */
    private static void theSixtiethHour() {
        VarnishNight x = new VarnishNight();
        tell(x, "tacky 1; wife 0 1 nose 99; wife 0 2 nose 99; head 0 3 nose 48; wants 1 nearer 2; wants 2 farther 1");
        Check.due("at 0: kind(1, 60)", x.kind(1, 60), 0);
        Check.due("at 0: clash(60)", x.clash(60), 1);
        x.hours(1);
        Check.due("at 1: kind(1, 59)", x.kind(1, 59), 0);
        Check.due("at 1: kind(1, 60)", x.kind(1, 60), 2);
        Check.due("at 1: clash(59)", x.clash(59), 1);
        Check.due("at 1: clash(60)", x.clash(60), Check.NONE);
    }

    /** "of several the least": all alike, and all but the first alike. */
    private static void ofSeveralTheLeast() {
        VarnishNight x = new VarnishNight();
        out(x, 0);
        for (int i = 0; i < 8; i++) {
            x.turn(i, 3);
        }
        Check.due("porter, all alike", x.porter(40), 0);
        x.set(0, 7, 1);
        x.set(1, 7, 1);
        Check.due("porter, all but two alike", x.porter(40), 2);
        Check.due("kind, all alike", x.kind(0, 60), 0);
        Check.due("place, all alike", x.place(7, 40), 0);
        x.set(7, 7, 1);
        Check.due("want, all but a shorter nose and a lit lamp alike", x.want(7, 40), 1);
        x.set(7, 3, 10);
        Check.due("want, all but a lit lamp alike", x.want(7, 40), 0);
    }

    private static void tell(VarnishNight x, String text) {
        Check.holds("'" + text + "' is a text", Check.night(x, text) > 0);
    }
}
