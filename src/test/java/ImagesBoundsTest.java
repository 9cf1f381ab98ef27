import java.util.function.ToLongFunction;

/** The bounds that promises 32 to 36 name: image, undo, tear, count, status. Each sentence has its own test. */
public final class ImagesBoundsTest {
    private static final int THERE = 3;

    public static void main(String[] args) {
        imageOfNobodyAndOfEight();
        imageIsOnlyKept();
        imageIsTheLatest();
        imageKeepsEachThing();
        undoTakesBackEachAct();
        undoNone();
        undoStays();
        undoLeavesTapeSheetsAndFindings();
        tearOfNoneAndOfOne();
        tearChangesNothingElse();
        countOfNobodyAndOfEight();
        countIsOnlyAsked();
        countBeyond();
        statusOfNone();
        statusOfEach();
        statusIsOnlyAsked();
        statusBeyond();
        statusGoesOn();
        Check.end();
    }

    private static void imageOfNobodyAndOfEight() {
        VarnishNight x = new VarnishNight();
        Check.due("nobody: image()", x.image(), 1);
        Twin.full(x);
        Check.due("eight: image()", x.image(), 1);
        Check.due("eight: undo()", x.undo(), 8);
        Check.due("count(0)", x.count(0), 8);
        VarnishNight y = new VarnishNight();
        y.image();
        for (int i = 0; i < 8; i++) {
            y.figure(0, 0, 0);
        }
        Check.due("back to nobody", y.undo(), 0);
        Check.due("count(0)", y.count(0), 0);
        Check.due("nobody hangs there", y.hangs(0), 0);
        Check.due("there is room for the first", y.figure(0, 0, 0), 0);
        anew();
    }

    /** One that comes where undo() took one away is as every one at first. */
    private static void anew() {
        VarnishNight x = new VarnishNight();
        x.image();
        Check.night(x, "head 3 19 nose 99 lit; wants 0 farther 0; out 0");
        x.set(0, 8, 9999);
        x.undo();
        x.figure(1, 0, 0);
        long[] first = {1, 0, 0, 50, 0, 0, -1, 0, 0};
        for (int what = 0; what <= 8; what++) {
            Check.due("anew: of(0, " + what + ")", x.of(0, what), first[what]);
        }
    }

    /** Keeping changes nothing that is: image() and undo() at once leave all but what is kept. */
    private static void imageIsOnlyKept() {
        Twin.changed("image() then undo()", THERE, Twin::rich, x -> {
            x.image();
            return x.undo();
        }, x -> x.image());
        Twin.changed("image() twice", 1, Twin::rich, x -> {
            x.image();
            return x.image();
        }, x -> x.image());
    }

    /** "what was kept latest". */
    private static void imageIsTheLatest() {
        VarnishNight x = new VarnishNight();
        for (int i = 0; i < 8; i++) {
            x.figure(0, 0, i);
            x.image();
        }
        Check.due("the latest of eight", x.undo(), 8);
        x.hours(3);
        x.image();
        x.hours(4);
        x.undo();
        Check.due("the hour", x.now(0), 3);
    }

    /** "All that section 1 tells (THE TAPE not) is kept": HOUR, TACKY, and each thing of each figure. */
    private static void imageKeepsEachThing() {
        int[] other = {0, 1, 1, 3, 1, 3, 1, 1, 5};
        for (int i = 0; i < 8; i++) {
            for (int j = 0; j <= 8; j++) {
                int figure = i;
                int what = j;
                VarnishNight x = eight();
                int was = x.of(figure, what);
                x.image();
                if (what == 0) {
                    x.turn(figure, 3);
                } else {
                    x.set(figure, what, other[what]);
                }
                x.undo();
                Check.due("of(" + figure + ", " + what + ")", x.of(figure, what), was);
            }
        }
        VarnishNight x = eight();
        x.image();
        x.tacky(0);
        x.hours(100);
        x.undo();
        Check.due("the hour", x.now(0), 0);
        Check.due("tacky", x.tacky(1), 7);
    }

    private static VarnishNight eight() {
        VarnishNight x = new VarnishNight();
        x.tacky(7);
        for (int i = 0; i < 8; i++) {
            x.figure(4, 3, 19);
            x.set(i, 3, 99);
            x.set(i, 6, 7);
            x.set(i, 8, 9999);
        }
        return x;
    }

    /** Whatever came behind it, "it becomes what was kept". */
    private static void undoTakesBackEachAct() {
        takenBack("tacky(8)", x -> x.tacky(8));
        takenBack("figure(5, 3, 19)", x -> x.figure(5, 3, 19));
        takenBack("set(0, 3, 0)", x -> x.set(0, 3, 0));
        takenBack("set(2, 8, 9999)", x -> x.set(2, 8, 9999));
        takenBack("turn(1, 5)", x -> x.turn(1, 5));
        takenBack("hours(100)", x -> x.hours(100));
        takenBack("lays(1)", x -> x.lays(1));
        takenBack("an undo()", x -> x.undo());
    }

    private static void takenBack(String call, ToLongFunction<VarnishNight> act) {
        Twin.changed(call + " then undo()", THERE, Twin::rich, x -> {
            x.image();
            act.applyAsLong(x);
            return x.undo();
        }, x -> x.image());
    }

    private static void undoNone() {
        Twin.refused("nothing is kept: undo()", Check.NONE, Twin::empty, x -> x.undo());
        Twin.refused("torn: undo()", Check.NONE, ImagesBoundsTest::torn, x -> x.undo());
    }

    private static void torn(VarnishNight x) {
        Twin.rich(x);
        x.tear();
    }

    /** "(which stays)". */
    private static void undoStays() {
        VarnishNight x = new VarnishNight();
        Twin.rich(x);
        for (int i = 0; i < 5; i++) {
            Check.due("undo() " + i, x.undo(), 2);
            Check.due("the hour", x.now(0), 0);
            Check.due("the nose", x.of(0, 3), 20);
            x.hours(50);
            x.figure(0, 0, 0);
            x.set(0, 3, 0);
        }
    }

    private static void undoLeavesTapeSheetsAndFindings() {
        VarnishNight x = new VarnishNight();
        Twin.rich(x);
        x.hangs(-1);
        int found = x.status(-1);
        x.undo();
        Check.due("the tape", x.count(1), 20);
        Check.due("a number of 8 bits", x.write(0, 1, 0), -1);
        Check.due("a number of 16 bits", x.write(1, 2, 0), 301);
        Check.due("a number of 64 bits", x.write(2, 1, 0), 4999999996L);
        Check.due("the findings", x.status(-1), found);
        Check.due("a missing sheet", x.write(3, 0, 0), Check.MISSING);
        // The image has two figures, so the text's last item asks for one that isn't there.
        Check.due("the text", x.night(), -1 - 19);
    }

    /** "Nothing is kept: 1 if something was, else 0." */
    private static void tearOfNoneAndOfOne() {
        VarnishNight x = new VarnishNight();
        Check.due("tear() of none", x.tear(), 0);
        x.image();
        x.image();
        Check.due("tear() of two", x.tear(), 1);
        Check.due("tear() again", x.tear(), 0);
        x.image();
        x.undo();
        Check.due("tear() after undo()", x.tear(), 1);
        Check.due("undo() after tear()", x.undo(), Check.NONE);
        Check.due("undo() keeps nothing", x.tear(), 0);
    }

    private static void tearChangesNothingElse() {
        Twin.changed("tear(), and the image anew", 1, Twin::rich, x -> {
            int was = x.tear();
            x.image();
            return was;
        }, x -> x.image());
        Twin.changed("tear() of none", 0, ImagesBoundsTest::torn, x -> x.tear(),
                x -> Check.due("no finding", x.count(0), THERE));
    }

    private static void countOfNobodyAndOfEight() {
        VarnishNight x = new VarnishNight();
        for (int what = 0; what <= 3; what++) {
            Check.due("none: count(" + what + ")", x.count(what), 0);
        }
        for (int i = 0; i < 8; i++) {
            x.figure(i % 6, i % 4, i);
            Check.due("count(3), the first noses", x.count(3), 50 * (i + 1));
        }
        for (int i = 0; i < 8; i++) {
            x.set(i, 3, 99);
            x.set(i, 4, 1);
            Check.due("count(2)", x.count(2), i + 1);
        }
        Check.feed(x, "x".repeat(120));
        long[] due = {8, 120, 8, 8 * 99};
        for (int what = 0; what <= 3; what++) {
            Check.due("full: count(" + what + ")", x.count(what), due[what]);
        }
    }

    private static void countIsOnlyAsked() {
        long[] due = {THERE, 20, 1, 20 + 50 + 91};
        for (int i = 0; i <= 3; i++) {
            int what = i;
            Twin.asked("count(" + what + ")", due[what], Twin::rich, x -> x.count(what));
        }
    }

    private static void countBeyond() {
        for (int what : Twin.outside(0, 3)) {
            Twin.refused("count(" + what + ")", Check.BEYOND, Twin::rich, x -> x.count(what));
        }
    }

    private static void statusOfNone() {
        VarnishNight x = new VarnishNight();
        for (int which = -1; which <= 6; which++) {
            Check.due("new: status(" + which + ")", x.status(which), 0);
        }
    }

    /** "which -1: all, 0 to 6: BEYOND to SIZE." Each finding is counted once, as what it is. */
    private static void statusOfEach() {
        counted(0, x -> x.hangs(4));
        counted(1, x -> x.feed(0, 1));
        counted(2, x -> x.as(0, 5));
        counted(3, x -> x.porter(1));
        counted(5, x -> x.lays(3));
        counted(6, x -> x.sheet(0, 0, -1));
        // Only with more than 512 calls.
        VarnishNight late = new VarnishNight();
        for (int i = 0; i < 999; i++) {
            late.hours(100);
        }
        Check.due("99900: hours(100)", late.hours(100), Check.STATE);
        for (int which = -1; which <= 6; which++) {
            Check.due("STATE: status(" + which + ")", late.status(which), which == -1 || which == 4 ? 1 : 0);
        }
    }

    /** A sitter that is out, and 120 bytes; the act answers its finding three times. */
    private static void counted(int finding, ToLongFunction<VarnishNight> act) {
        VarnishNight x = new VarnishNight();
        x.figure(0, 0, 0);
        x.set(0, 7, 1);
        Check.feed(x, " ".repeat(120));
        for (int times = 1; times <= 3; times++) {
            Check.due("finding " + finding, act.applyAsLong(x), Check.BEYOND - finding);
            for (int which = -1; which <= 6; which++) {
                boolean here = which == -1 || which == finding;
                Check.due("finding " + finding + ": status(" + which + ")", x.status(which), here ? times : 0);
            }
        }
    }

    private static void statusIsOnlyAsked() {
        for (int i = -1; i <= 6; i++) {
            int which = i;
            // What was made has one finding: the number that the sheet of two has no place for.
            Twin.asked("status(" + which + ")", which <= 0 ? 1 : 0, Twin::rich, x -> x.status(which));
        }
    }

    /** "BEYOND (counted from then on): another one." */
    private static void statusBeyond() {
        for (int which : Twin.outside(-1, 6)) {
            Twin.refused("status(" + which + ")", Check.BEYOND, Twin::rich, x -> x.status(which));
        }
        VarnishNight x = new VarnishNight();
        Check.due("status(7)", x.status(7), Check.BEYOND);
        Check.due("status(-1) then", x.status(-1), 1);
        Check.due("status(-2)", x.status(-2), Check.BEYOND);
        Check.due("status(0) then", x.status(0), 2);
    }

    /** "ever (undo() takes none back)": over a whole life of 512 calls, with images in between. */
    private static void statusGoesOn() {
        VarnishNight x = new VarnishNight();
        x.image();
        for (int i = 0; i < 250; i++) {
            x.of(0, 0);
            x.undo();
        }
        x.tear();
        x.wipe();
        Check.due("status(0)", x.status(0), 250);
        Check.due("status(-1)", x.status(-1), 250);
    }
}
