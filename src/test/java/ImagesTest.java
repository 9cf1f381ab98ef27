/** Promises 32 to 36: image, undo, tear, count, status. */
public final class ImagesTest {
    public static void main(String[] args) {
        image();
        imageKeepsWhatStoodThen();
        tear();
        notKept();
        count();
        status();
        everyFindingIsCounted();
        findingsChangeNothing();
        aFreshOneAfterUndo();
        Check.end();
    }

    private static void image() {
        VarnishNight x = new VarnishNight();
        Check.due("undo()", x.undo(), Check.NONE);
        Check.due("image()", x.image(), 1);
        x.figure(0, 0, 0);
        Check.due("undo() to nobody", x.undo(), 0);
        Check.due("count(0)", x.count(0), 0);
        x.figure(1, 2, 3);
        x.figure(4, 2, 4);
        Check.due("image() again", x.image(), 1);
        x.figure(0, 0, 0);
        Check.due("the latest", x.undo(), 2);
        Check.due("it stays", x.undo(), 2);
        Check.due("of(0, 2)", x.of(0, 2), 3);
    }

    private static void imageKeepsWhatStoodThen() {
        VarnishNight x = new VarnishNight();
        Check.night(x, "sitter 0 3 nose 20 lit; mayor 0 9; wants 0 nearer 1; out 1; tacky 3");
        x.hours(2);
        x.set(1, 8, 44);
        String before = Check.told(x);
        x.image();
        x.tacky(7);
        x.turn(0, 5);
        x.set(0, 1, 3);
        x.set(0, 2, 19);
        x.set(0, 3, 1);
        x.set(0, 4, 0);
        x.set(0, 5, 3);
        x.set(0, 6, -1);
        x.set(1, 7, 0);
        x.set(1, 8, 0);
        x.figure(0, 1, 1);
        x.hours(30);
        Check.holds("it is another", !before.equals(Check.told(x)));
        Check.due("undo()", x.undo(), 2);
        Check.holds("it is as it was", before.equals(Check.told(x)));
        x.hours(5);
        x.undo();
        Check.holds("what is kept stays as it was", before.equals(Check.told(x)));
    }

    private static void tear() {
        VarnishNight x = new VarnishNight();
        Check.due("tear()", x.tear(), 0);
        x.image();
        x.image();
        Check.due("tear()", x.tear(), 1);
        Check.due("tear() again", x.tear(), 0);
        Check.due("undo()", x.undo(), Check.NONE);
        Check.due("status(3)", x.status(3), 1);
        x.image();
        Check.due("undo()", x.undo(), 0);
    }

    /** The tape, the sheets and the findings are no part of an image. */
    private static void notKept() {
        VarnishNight x = new VarnishNight();
        x.sheet(0, 8, 1);
        x.write(0, 0, 5);
        Check.feed(x, "tack");
        x.image();
        Check.feed(x, "y 1");
        x.write(0, 0, 6);
        x.hangs(4);
        x.undo();
        Check.due("the tape", x.count(1), 7);
        Check.due("the sheet", x.write(0, 0, 0), 6);
        Check.due("the findings", x.status(0), 1);
        Check.due("night()", x.night(), 1);
        Check.due("undo()", x.undo(), 0);
        Check.due("tacky(4)", x.tacky(4), 4);
    }

    private static void count() {
        VarnishNight x = new VarnishNight();
        x.figure(0, 0, 0);
        x.figure(1, 1, 0);
        x.figure(2, 2, 0);
        x.set(0, 4, 1);
        x.set(2, 4, 1);
        x.set(1, 3, 99);
        x.feed(0, 3);
        Check.due("count(0)", x.count(0), 3);
        Check.due("count(1)", x.count(1), 3);
        Check.due("count(2)", x.count(2), 2);
        Check.due("count(3)", x.count(3), 199);
        Check.due("count(4)", x.count(4), Check.BEYOND);
        Check.due("count(-1)", x.count(-1), Check.BEYOND);
    }

    private static void status() {
        VarnishNight x = new VarnishNight();
        Check.due("status(7)", x.status(7), Check.BEYOND);
        Check.due("counted from then on", x.status(0), 1);
        Check.due("status(-2)", x.status(-2), Check.BEYOND);
        Check.due("status(max)", x.status(Integer.MAX_VALUE), Check.BEYOND);
        Check.due("status(-1)", x.status(-1), 3);
        for (int i = 0; i < 8; i++) {
            x.figure(3, 0, 0);
        }
        x.figure(0, 0, 0);
        x.figure(0, 0, 0);
        x.as(0, 1);
        x.as(0, 2);
        x.as(0, 4);
        x.all();
        x.sheet(0, 8, -1);
        x.lays(0);
        int[] counts = {3, 2, 3, 1, 0, 1, 1};
        for (int which = 0; which <= 6; which++) {
            Check.due("status(" + which + ")", x.status(which), counts[which]);
        }
        Check.due("status(-1)", x.status(-1), 11);
        x.image();
        x.hangs(9);
        x.undo();
        Check.due("undo() takes none back", x.status(-1), 12);
    }

    private static void findingsChangeNothing() {
        VarnishNight x = new VarnishNight();
        Check.night(x, "sitter 0 3 nose 20 lit; mayor 0 9; wants 0 nearer 1; out 1; tacky 3");
        Check.feed(x, "tacky 1");
        x.sheet(0, 8, 2);
        String before = Check.told(x);
        x.tacky(9);
        x.figure(6, 0, 0);
        x.set(0, 3, 100);
        x.set(0, 6, 2);
        x.turn(0, 6);
        x.hours(0);
        x.hours(101);
        x.feed(0, 5);
        x.sheet(0, 8, 41);
        x.sheet(0, 8, -1);
        x.write(0, 2, 1);
        x.copy(0, 0, 0, 1, 2);
        x.lays(1);
        x.undo();
        Check.due("each was a finding", x.status(-1), 14);
        Check.holds("findings change nothing", before.equals(Check.told(x)));
    }

    private static void counted(VarnishNight x, long answer, long finding) {
        int which = (int) (Check.BEYOND - finding);
        Check.due("the finding", answer, finding);
        seen[which]++;
        Check.due("status(" + which + ")", x.status(which), seen[which]);
        Check.due("status(-1)", x.status(-1), java.util.stream.IntStream.of(seen).sum());
    }

    private static final int[] seen = new int[7];

    private static void everyFindingIsCounted() {
        VarnishNight x = new VarnishNight();
        counted(x, x.porter(1), Check.NONE);
        counted(x, x.by(1, 1), Check.NONE);
        counted(x, x.clash(1), Check.NONE);
        counted(x, x.undo(), Check.NONE);
        x.figure(3, 0, 0);
        counted(x, x.when(0), Check.NONE);
        counted(x, x.all(), Check.NONE);
        counted(x, x.as(0, 5), Check.KIND);
        counted(x, x.lays(0), Check.MISSING);
        counted(x, x.book(0, 0), Check.MISSING);
        counted(x, x.read(0, 0), Check.MISSING);
        counted(x, x.write(0, 0, 0), Check.MISSING);
        counted(x, x.copy(0, 0, 1, 0, 0), Check.MISSING);
        x.sheet(0, 8, 1);
        x.sheet(1, 16, 1);
        counted(x, x.copy(0, 0, 1, 0, 0), Check.KIND);
        counted(x, x.copy(0, 0, 0, 0, 2), Check.BEYOND);
        counted(x, x.copy(0, 0, 4, 0, 0), Check.BEYOND);
        counted(x, x.sheet(0, 0, -1), Check.SIZE);
        counted(x, x.sheet(0, 0, 41), Check.BEYOND);
        counted(x, x.sheet(0, 1, 1), Check.BEYOND);
        counted(x, x.write(4, 0, 0), Check.BEYOND);
        counted(x, x.write(0, 1, 0), Check.BEYOND);
        counted(x, x.lays(4), Check.BEYOND);
        counted(x, x.book(4, 0), Check.BEYOND);
        counted(x, x.book(0, 1), Check.BEYOND);
        counted(x, x.read(4, 0), Check.BEYOND);
        counted(x, x.read(0, 1), Check.BEYOND);
        counted(x, x.tacky(9), Check.BEYOND);
        counted(x, x.now(8), Check.BEYOND);
        counted(x, x.hangs(4), Check.BEYOND);
        counted(x, x.figure(6, 0, 0), Check.BEYOND);
        counted(x, x.of(1, 0), Check.BEYOND);
        counted(x, x.of(0, 12), Check.BEYOND);
        counted(x, x.set(0, 0, 0), Check.BEYOND);
        counted(x, x.seen(1), Check.BEYOND);
        counted(x, x.turn(0, 6), Check.BEYOND);
        counted(x, x.as(0, 6), Check.BEYOND);
        counted(x, x.hours(0), Check.BEYOND);
        counted(x, x.on(0, 0, 4), Check.BEYOND);
        counted(x, x.when(1), Check.BEYOND);
        counted(x, x.many(201), Check.BEYOND);
        counted(x, x.porter(0), Check.BEYOND);
        counted(x, x.by(1, 9), Check.BEYOND);
        counted(x, x.kind(0, 0), Check.BEYOND);
        counted(x, x.place(0, 0), Check.BEYOND);
        counted(x, x.clash(0), Check.BEYOND);
        counted(x, x.want(0, 0), Check.BEYOND);
        counted(x, x.nose(0, 41), Check.BEYOND);
        counted(x, x.feed(0, 0), Check.BEYOND);
        counted(x, x.count(4), Check.BEYOND);
        counted(x, x.status(7), Check.BEYOND);
        for (int i = 0; i < 7; i++) {
            x.figure(3, 0, 0);
        }
        counted(x, x.figure(3, 0, 0), Check.FULL);
        for (int i = 0; i < 30; i++) {
            x.feed(0, 4);
        }
        counted(x, x.feed(0, 1), Check.FULL);
        x.sheet(2, 64, 1);
        x.write(2, 0, Check.MISSING);
        Check.due("what looks like a finding is none", x.write(2, 0, 0), Check.MISSING);
        Check.due("status(5)", x.status(5), seen[5]);
    }

    private static void aFreshOneAfterUndo() {
        VarnishNight x = new VarnishNight();
        x.figure(0, 0, 0);
        x.image();
        x.figure(4, 3, 19);
        int[] other = {0, 2, 18, 3, 1, 4, 0, 1, 77};
        for (int what = 1; what <= 8; what++) {
            x.set(1, what, other[what]);
        }
        x.undo();
        Check.due("it is gone", x.of(1, 0), Check.BEYOND);
        Check.due("figure(2, 1, 5)", x.figure(2, 1, 5), 1);
        long[] first = {2, 1, 5, 50, 0, 0, -1, 0, 0};
        for (int what = 0; what <= 8; what++) {
            Check.due("of(1, " + what + ")", x.of(1, what), first[what]);
        }
    }
}
