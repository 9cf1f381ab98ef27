/** What the tests share: it prints every answer that is not due, and ends with 1 if there was one. */
final class Check {
    static final long BEYOND = -1000000001L;
    static final long FULL = -1000000002L;
    static final long KIND = -1000000003L;
    static final long NONE = -1000000004L;
    static final long STATE = -1000000005L;
    static final long MISSING = -1000000006L;
    static final long SIZE = -1000000007L;

    private static int asked = 0;
    private static int wrong = 0;

    private Check() {}

    static void due(String call, long got, long want) {
        asked++;
        if (got != want) {
            wrong++;
            System.out.println(call + " answered " + got + ", due is " + want);
        }
    }

    static void holds(String what, boolean is) {
        asked++;
        if (!is) {
            wrong++;
            System.out.println("not so: " + what);
        }
    }

    static void same(String what, String got, String want) {
        asked++;
        if (!got.equals(want)) {
            wrong++;
            System.out.println(what + " it is " + got + "\n due is " + want);
        }
    }

    static void end() {
        System.out.println(asked + " asked, " + wrong + " wrong");
        if (wrong != 0 || asked == 0) {
            System.exit(1);
        }
    }

    static int wrong() {
        return wrong;
    }

    /** Feeds a text, four bytes at a time. */
    static void feed(VarnishNight x, String text) {
        for (int i = 0; i < text.length(); i += 4) {
            int n = Math.min(4, text.length() - i);
            int bytes = 0;
            for (int j = 0; j < n; j++) {
                bytes = bytes << 8 | text.charAt(i + j);
            }
            x.feed(bytes, n);
        }
    }

    static int night(VarnishNight x, String text) {
        feed(x, text);
        return x.night();
    }

    /** One number for all that can be asked of what section 1 tells, and of the tape's length. */
    static String told(VarnishNight x) {
        StringBuilder all = new StringBuilder();
        for (int what = 0; what <= 7; what++) {
            all.append(x.now(what)).append(' ');
        }
        for (int what = 0; what <= 3; what++) {
            all.append(x.count(what)).append(' ');
        }
        int was = x.tacky(0);
        x.tacky(was);
        all.append(was);
        int figures = x.count(0);
        for (int figure = 0; figure < figures; figure++) {
            all.append(" |");
            for (int what = 0; what <= 11; what++) {
                all.append(' ').append(x.of(figure, what));
            }
        }
        return all.toString();
    }
}
