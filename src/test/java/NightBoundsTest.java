/** The bounds that promises 1 to 4 name: a new object, tacky, now, hangs. Each sentence has its own test. */
public final class NightBoundsTest {
    private static final int[] KINDS = {0, 1, 2, 3, 4, 5};

    public static void main(String[] args) {
        nobodyInAnyPicture();
        theTapeIsEmpty();
        noImageIsKept();
        sheetsAreMissingAtFirst();
        tackyBecomesV();
        tackyBeyond();
        nowOfNobody();
        nowOfEight();
        nowIsOnlyAsked();
        nowBeyond();
        hangsOfNobodyAndOfEight();
        hangsBeyond();
        Check.end();
    }

    /** "Nobody in any PICTURE": every call that asks for one finds none. */
    private static void nobodyInAnyPicture() {
        VarnishNight x = new VarnishNight();
        for (int picture = 0; picture <= 3; picture++) {
            Check.due("new: hangs(" + picture + ")", x.hangs(picture), 0);
        }
        Check.due("new: count(0)", x.count(0), 0);
        for (int figure = 0; figure <= 8; figure++) {
            Check.due("new: of(" + figure + ", 0)", x.of(figure, 0), Check.BEYOND);
        }
        Check.due("new: seen(0)", x.seen(0), Check.BEYOND);
        Check.due("new: turn(0, 0)", x.turn(0, 0), Check.BEYOND);
        Check.due("new: as(0, 0)", x.as(0, 0), Check.BEYOND);
        Check.due("new: set(0, 1, 0)", x.set(0, 1, 0), Check.BEYOND);
        Check.due("new: set(0, 6, -1)", x.set(0, 6, -1), Check.BEYOND);
        Check.due("new: on(0, 0, 0)", x.on(0, 0, 0), Check.BEYOND);
        Check.due("new: when(0)", x.when(0), Check.BEYOND);
        Check.due("new: kind(0, 1)", x.kind(0, 1), Check.BEYOND);
        Check.due("new: place(0, 1)", x.place(0, 1), Check.BEYOND);
        Check.due("new: want(0, 1)", x.want(0, 1), Check.BEYOND);
        Check.due("new: nose(0, 0)", x.nose(0, 0), Check.BEYOND);
        Check.due("new: the first one is 0", x.figure(0, 0, 0), 0);
    }

    /** "THE TAPE is empty". */
    private static void theTapeIsEmpty() {
        Check.due("new: count(1)", new VarnishNight().count(1), 0);
        Check.due("new: wipe()", new VarnishNight().wipe(), 0);
        Check.due("new: night()", new VarnishNight().night(), -1);
        Check.due("new: feed(0, 1)", new VarnishNight().feed(0, 1), 1);
    }

    /** "no image is kept". */
    private static void noImageIsKept() {
        Check.due("new: tear()", new VarnishNight().tear(), 0);
        Twin.refused("new: undo()", Check.NONE, Twin::empty, x -> x.undo());
    }

    /** "SHEETS .. or MISSING (at first)". */
    private static void sheetsAreMissingAtFirst() {
        for (int i = 0; i <= 3; i++) {
            int s = i;
            Twin.refused("new: write(" + s + ", 0, 0)", Check.MISSING, Twin::empty, x -> x.write(s, 0, 0));
        }
    }

    /** "TACKY (0 to 8 ..; 4 at first)", "TACKY becomes v: what it was". */
    private static void tackyBecomesV() {
        VarnishNight x = new VarnishNight();
        int was = 4;
        for (int v : new int[] {0, 1, 7, 8, 4, 4, 8, 0}) {
            Check.due("tacky(" + v + ")", x.tacky(v), was);
            was = v;
        }
        for (int i = 0; i <= 8; i++) {
            int v = i;
            Twin.changed("tacky(" + v + ") and back", v, Twin::rich, y -> {
                y.tacky(v);
                return y.tacky(3);
            }, y -> y.tacky(3));
        }
    }

    private static void tackyBeyond() {
        for (int v : Twin.outside(0, 8)) {
            Twin.refused("tacky(" + v + ")", Check.BEYOND, Twin::rich, x -> x.tacky(v));
        }
    }

    /** All of them are 0 with nobody there; hours and the paint are as ever. */
    private static void nowOfNobody() {
        VarnishNight x = new VarnishNight();
        x.hours(7);
        long[] due = {7, 7, 1, 0, 0, 0, 0, 0};
        for (int what = 0; what <= 7; what++) {
            Check.due("nobody at 7: now(" + what + ")", x.now(what), due[what]);
        }
        x.hours(1);
        Check.due("nobody at 8: now(0)", x.now(0), 8);
        Check.due("nobody at 8: now(1)", x.now(1), 0);
        Check.due("nobody at 8: now(2)", x.now(2), 0);
    }

    /** Sets of all eight are 255, of the first 1, of the last 128. */
    private static void nowOfEight() {
        VarnishNight x = new VarnishNight();
        for (int i = 0; i < 8; i++) {
            x.figure(3, 0, 19);
        }
        Check.due("eight fishers: who is content", x.now(3), 0);
        Check.due("eight fishers: who waits", x.now(4), 255);
        Check.due("eight fishers: who is seen", x.now(5), 0);
        Check.due("eight fishers: who is out", x.now(6), 0);
        for (int i = 7; i >= 0; i--) {
            x.set(i, 3, 10);
            x.set(i, 7, 1);
            x.set(i, 8, 9999);
            x.turn(i, 0);
            int from = 256 - (1 << i);
            Check.due("who is content, from " + i + " on", x.now(3), from);
            Check.due("who waits, but from " + i + " on", x.now(4), 255 - from);
            Check.due("who is out, from " + i + " on", x.now(6), from);
            Check.due("work of all, from " + i + " on", x.now(7), 9999 * (8 - i));
        }
        x.set(7, 4, 1);
        Check.due("all are seen by one", x.now(5), 255);
        x.set(7, 2, 0);
        Check.due("only the last is seen", x.now(5), 128);
    }

    private static void nowIsOnlyAsked() {
        // Hour 3, tacky from 3; the sitter 0 is lit and content, the mayor 1 seen by it and out, the head 2 alone.
        long[] due = {3, 3, 1, 1, 2, 3, 2, 81};
        for (int i = 0; i <= 7; i++) {
            int what = i;
            Twin.asked("now(" + what + ")", due[what], Twin::rich, x -> x.now(what));
        }
    }

    private static void nowBeyond() {
        for (int what : Twin.outside(0, 7)) {
            Twin.refused("now(" + what + ")", Check.BEYOND, Twin::rich, x -> x.now(what));
        }
    }

    private static void hangsOfNobodyAndOfEight() {
        VarnishNight x = new VarnishNight();
        int there = 0;
        for (int i = 0; i < 8; i++) {
            x.figure(KINDS[i % 6], 3, i);
            there |= 1 << i;
            Check.due("hangs(3) with " + (i + 1), x.hangs(3), there);
            Check.due("hangs(0) with " + (i + 1), x.hangs(0), 0);
        }
        for (int i = 0; i < 8; i++) {
            x.set(i, 1, 0);
            Check.due("hangs(0) after " + i + " moved", x.hangs(0), (2 << i) - 1);
            Check.due("hangs(3) after " + i + " moved", x.hangs(3), 255 - ((2 << i) - 1));
        }
        long[] due = {3, 0, 4, 0};
        for (int i = 0; i <= 3; i++) {
            int picture = i;
            Twin.asked("hangs(" + picture + ")", due[picture], Twin::rich, y -> y.hangs(picture));
        }
    }

    private static void hangsBeyond() {
        for (int picture : Twin.outside(0, 3)) {
            Twin.refused("hangs(" + picture + ")", Check.BEYOND, Twin::rich, x -> x.hangs(picture));
        }
    }
}
