/** Promises 1 to 4: a new object, tacky, now, hangs. */
public final class NightTest {
    public static void main(String[] args) {
        aNewObject();
        tacky();
        now();
        nowTellsSets();
        hangs();
        Check.end();
    }

    private static void aNewObject() {
        VarnishNight x = new VarnishNight();
        for (int what = 0; what <= 7; what++) {
            Check.due("new: now(" + what + ")", x.now(what), 0);
        }
        for (int picture = 0; picture <= 3; picture++) {
            Check.due("new: hangs(" + picture + ")", x.hangs(picture), 0);
        }
        for (int what = 0; what <= 3; what++) {
            Check.due("new: count(" + what + ")", x.count(what), 0);
        }
        for (int which = -1; which <= 6; which++) {
            Check.due("new: status(" + which + ")", x.status(which), 0);
        }
        Check.due("new: wipe()", x.wipe(), 0);
        Check.due("new: tear()", x.tear(), 0);
        Check.due("new: undo()", x.undo(), Check.NONE);
        Check.due("new: tacky(4)", x.tacky(4), 4);
        Check.due("new: of(0, 0)", x.of(0, 0), Check.BEYOND);
        for (int s = 0; s <= 3; s++) {
            Check.due("new: lays(" + s + ")", x.lays(s), Check.MISSING);
        }
    }

    private static void tacky() {
        VarnishNight x = new VarnishNight();
        Check.due("tacky(8)", x.tacky(8), 4);
        Check.due("tacky(9)", x.tacky(9), Check.BEYOND);
        Check.due("tacky(-1)", x.tacky(-1), Check.BEYOND);
        Check.due("tacky(max)", x.tacky(Integer.MAX_VALUE), Check.BEYOND);
        Check.due("tacky(min)", x.tacky(Integer.MIN_VALUE), Check.BEYOND);
        Check.due("tacky(0) after the wrong ones", x.tacky(0), 8);
        Check.due("tacky(3)", x.tacky(3), 0);
        Check.due("status(0)", x.status(0), 4);
    }

    private static void now() {
        VarnishNight x = new VarnishNight();
        for (int hour = 0; hour < 20; hour++) {
            Check.due("now(0) at " + hour, x.now(0), hour);
            Check.due("now(1) at " + hour, x.now(1), hour % 8);
            Check.due("now(2) at " + hour, x.now(2), hour % 8 >= 4 ? 1 : 0);
            for (int v = 0; v <= 8; v++) {
                x.tacky(v);
                Check.due("now(2) at " + hour + ", tacky " + v, x.now(2), hour % 8 >= v ? 1 : 0);
            }
            x.tacky(4);
            x.hours(1);
        }
        Check.due("now(8)", x.now(8), Check.BEYOND);
        Check.due("now(-1)", x.now(-1), Check.BEYOND);
        Check.due("status(-1)", x.status(-1), 2);
    }

    private static void nowTellsSets() {
        VarnishNight x = new VarnishNight();
        x.figure(0, 0, 0);
        x.figure(3, 0, 5);
        x.figure(2, 1, 5);
        x.figure(0, 0, 6);
        x.set(0, 3, 10);
        x.set(2, 3, 0);
        x.set(3, 4, 1);
        x.set(1, 7, 1);
        x.set(3, 7, 1);
        x.set(0, 8, 9999);
        x.set(2, 8, 7);
        Check.due("who is content", x.now(3), 5);
        Check.due("who waits", x.now(4), 6);
        Check.due("who is seen", x.now(5), 10);
        Check.due("who is out", x.now(6), 10);
        Check.due("work of all", x.now(7), 10006);
        x.turn(0, 3);
        x.set(0, 2, 4);
        x.set(1, 4, 1);
        Check.due("0 waits, too", x.now(4), 7);
        Check.due("0 is seen, too", x.now(5), 11);
        x.set(0, 7, 1);
        Check.due("0 is out, too", x.now(6), 11);
    }

    private static void hangs() {
        VarnishNight x = new VarnishNight();
        x.figure(0, 3, 0);
        x.figure(1, 0, 0);
        x.figure(2, 3, 19);
        x.figure(3, 1, 0);
        Check.due("hangs(0)", x.hangs(0), 2);
        Check.due("hangs(1)", x.hangs(1), 8);
        Check.due("hangs(2)", x.hangs(2), 0);
        Check.due("hangs(3)", x.hangs(3), 5);
        x.set(0, 1, 2);
        Check.due("hangs(2) after a move", x.hangs(2), 1);
        Check.due("hangs(3) after a move", x.hangs(3), 4);
        Check.due("hangs(4)", x.hangs(4), Check.BEYOND);
        Check.due("hangs(-1)", x.hangs(-1), Check.BEYOND);
    }
}
