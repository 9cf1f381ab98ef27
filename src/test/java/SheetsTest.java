/** Promises 26 to 31: sheets. */
public final class SheetsTest {
    public static void main(String[] args) {
        sheet();
        write();
        writeKeepsTheLowestBits();
        copy();
        copyAsTheyAllWere();
        copyAsksInOrder();
        lays();
        book();
        read();
        readTellsThemApart();
        Check.end();
    }

    private static void sheet() {
        VarnishNight x = new VarnishNight();
        for (int bits : new int[] {8, 16, 64}) {
            Check.due("sheet(0, " + bits + ", 40)", x.sheet(0, bits, 40), 40);
            Check.due("write(0, 39, 5)", x.write(0, 39, 5), 0);
            Check.due("sheet(0, " + bits + ", 40) again", x.sheet(0, bits, 40), 40);
            Check.due("all 0", x.write(0, 39, 5), 0);
            x.write(0, 0, 6);
            x.sheet(0, bits, 3);
            Check.due("the first, too", x.write(0, 0, 6), 0);
            Check.due("sheet(0, " + bits + ", 0)", x.sheet(0, bits, 0), 0);
            Check.due("it has none", x.write(0, 0, 5), Check.BEYOND);
        }
        Check.due("sheet(0, 0, 7)", x.sheet(0, 0, 7), 0);
        Check.due("it is missing", x.write(0, 0, 5), Check.MISSING);
        x.sheet(0, 8, 3);
        Check.due("sheet(4, 8, 1)", x.sheet(4, 8, 1), Check.BEYOND);
        Check.due("sheet(-1, 8, 1)", x.sheet(-1, 8, 1), Check.BEYOND);
        for (int bits : new int[] {1, 7, 9, 32, 63, 65, -8, Integer.MIN_VALUE}) {
            Check.due("sheet(0, " + bits + ", 1)", x.sheet(0, bits, 1), Check.BEYOND);
            Check.due("sheet(0, " + bits + ", -1)", x.sheet(0, bits, -1), Check.BEYOND);
        }
        for (int bits : new int[] {0, 8, 16, 64}) {
            Check.due("sheet(0, " + bits + ", -1)", x.sheet(0, bits, -1), Check.SIZE);
            Check.due("sheet(0, " + bits + ", min)", x.sheet(0, bits, Integer.MIN_VALUE), Check.SIZE);
            Check.due("sheet(0, " + bits + ", 41)", x.sheet(0, bits, 41), Check.BEYOND);
            Check.due("sheet(4, " + bits + ", -1)", x.sheet(4, bits, -1), Check.BEYOND);
        }
        Check.due("status(6)", x.status(6), 8);
        Check.due("it is as it was", x.write(0, 2, 1), 0);
        Check.due("and no longer", x.write(0, 3, 1), Check.BEYOND);
    }

    private static void write() {
        VarnishNight x = new VarnishNight();
        for (int s = 0; s <= 3; s++) {
            Check.due("missing at first", x.write(s, 0, 1), Check.MISSING);
            Check.due("missing, no such number", x.write(s, -1, 1), Check.MISSING);
            x.sheet(s, 64, 2);
            Check.due("write(" + s + ", 1, 7)", x.write(s, 1, 7 + s), 0);
        }
        for (int s = 0; s <= 3; s++) {
            Check.due("each its own", x.write(s, 1, 0), 7 + s);
            Check.due("each number its own", x.write(s, 0, 0), 0);
        }
        Check.due("write(4, 0, 0)", x.write(4, 0, 0), Check.BEYOND);
        Check.due("write(-1, 0, 0)", x.write(-1, 0, 0), Check.BEYOND);
        Check.due("write(0, 2, 0)", x.write(0, 2, 0), Check.BEYOND);
        Check.due("write(0, -1, 0)", x.write(0, -1, 0), Check.BEYOND);
        Check.due("write(0, max, 0)", x.write(0, Integer.MAX_VALUE, 0), Check.BEYOND);
        Check.due("status(0)", x.status(0), 5);
        Check.due("status(5)", x.status(5), 8);
        x.write(0, 0, Check.BEYOND);
        Check.due("a number that looks like a finding", x.write(0, 0, 1), Check.BEYOND);
        Check.due("is none", x.status(0), 5);
    }

    private static void writeKeepsTheLowestBits() {
        long[] numbers = {0, 1, -1, 127, 128, 255, 256, -128, -129, 32767, 32768, 65535, 65536,
            -32768, -32769, Long.MAX_VALUE, Long.MIN_VALUE, 0x123456789ABCDEFL};
        VarnishNight x = new VarnishNight();
        x.sheet(0, 8, 1);
        x.sheet(1, 16, 1);
        x.sheet(2, 64, 1);
        for (long v : numbers) {
            x.write(0, 0, v);
            x.write(1, 0, v);
            x.write(2, 0, v);
            Check.due("8 bits of " + v, x.write(0, 0, 0), (byte) v);
            Check.due("16 bits of " + v, x.write(1, 0, 0), (short) v);
            Check.due("64 bits of " + v, x.write(2, 0, 0), v);
        }
    }

    private static void copy() {
        VarnishNight x = new VarnishNight();
        x.sheet(0, 16, 5);
        x.sheet(3, 16, 4);
        for (int i = 0; i < 5; i++) {
            x.write(0, i, 10 + i);
        }
        Check.due("copy(0, 2, 3, 1, 3)", x.copy(0, 2, 3, 1, 3), 3);
        long[] got = {0, 12, 13, 14};
        for (int i = 0; i < 4; i++) {
            Check.due("number " + i, x.write(3, i, 0), got[i]);
        }
        for (int i = 0; i < 5; i++) {
            Check.due("the other stays: " + i, x.write(0, i, 0), 10 + i);
        }
        Check.due("none", x.copy(0, 0, 3, 0, 0), 0);
        Check.due("none, from behind the last", x.copy(0, 5, 3, 4, 0), 0);
    }

    private static void copyAsTheyAllWere() {
        for (int from = 0; from <= 2; from++) {
            for (int to = 0; to <= 2; to++) {
                VarnishNight x = new VarnishNight();
                x.sheet(1, 64, 5);
                for (int i = 0; i < 5; i++) {
                    x.write(1, i, 10 + i);
                }
                Check.due("copy in one sheet", x.copy(1, from, 1, to, 3), 3);
                for (int i = 0; i < 5; i++) {
                    int want = i >= to && i < to + 3 ? 10 + from + i - to : 10 + i;
                    Check.due("from " + from + " to " + to + ": " + i, x.write(1, i, 0), want);
                }
            }
        }
    }

    private static void copyAsksInOrder() {
        VarnishNight x = new VarnishNight();
        x.sheet(0, 8, 3);
        x.sheet(1, 16, 3);
        x.sheet(2, 8, 2);
        Check.due("no sheet 4", x.copy(4, 0, 3, 0, 1), Check.BEYOND);
        Check.due("no sheet -1", x.copy(3, 0, -1, 0, 1), Check.BEYOND);
        Check.due("3 is missing", x.copy(3, 0, 0, 0, -1), Check.MISSING);
        Check.due("3 is missing", x.copy(0, 0, 3, 0, -1), Check.MISSING);
        Check.due("3 is missing (both)", x.copy(3, 0, 3, 0, 0), Check.MISSING);
        Check.due("other bits", x.copy(0, 0, 1, 0, -1), Check.KIND);
        Check.due("other bits, none to copy", x.copy(0, 0, 1, 0, 0), Check.KIND);
        int[][] wrong = {{0, 0, 3}, {0, 2, 1}, {1, 0, 3}, {-1, 0, 1}, {0, -1, 1}, {0, 0, -1}, {4, 0, 0}, {0, 3, 0},
            {Integer.MAX_VALUE, 0, Integer.MAX_VALUE}, {1, 1, Integer.MAX_VALUE}, {1, 0, Integer.MIN_VALUE},
            {Integer.MIN_VALUE, 0, Integer.MIN_VALUE}, {0, Integer.MAX_VALUE, 1}, {Integer.MAX_VALUE, 0, 1}};
        for (int[] w : wrong) {
            Check.due("copy(0, " + w[0] + ", 2, " + w[1] + ", " + w[2] + ")", x.copy(0, w[0], 2, w[1], w[2]), Check.BEYOND);
        }
        Check.due("status(0)", x.status(0), 2 + wrong.length);
        Check.due("status(2)", x.status(2), 2);
        Check.due("status(5)", x.status(5), 3);
        Check.due("just so", x.copy(0, 1, 2, 0, 2), 2);
        Check.due("just so", x.copy(0, 3, 2, 2, 0), 0);
    }

    private static void lays() {
        VarnishNight x = new VarnishNight();
        for (int i = 0; i < 4; i++) {
            x.figure(0, 0, 0);
        }
        Check.due("lays(4)", x.lays(4), Check.BEYOND);
        Check.due("lays(-1)", x.lays(-1), Check.BEYOND);
        Check.due("lays(0)", x.lays(0), Check.MISSING);
        x.sheet(0, 64, 6);
        long[] numbers = {0, 100, 99, -1, 5, 6};
        for (int i = 0; i < 6; i++) {
            x.write(0, i, numbers[i]);
        }
        Check.due("lays(0)", x.lays(0), 2);
        int[] noses = {0, 50, 99, 50};
        for (int i = 0; i < 4; i++) {
            Check.due("nose of " + i, x.of(i, 3), noses[i]);
        }
        x.write(0, 0, 4294967296L + 7);
        x.write(0, 1, Long.MIN_VALUE + 7);
        Check.due("a number too great for an int", x.lays(0), 1);
        Check.due("nose of 0", x.of(0, 3), 0);
        x.sheet(1, 8, 2);
        x.write(1, 0, 33);
        Check.due("a short sheet", x.lays(1), 2);
        Check.due("nose of 0", x.of(0, 3), 33);
        Check.due("nose of 2", x.of(2, 3), 99);
        x.sheet(2, 16, 0);
        Check.due("an empty sheet", x.lays(2), 0);
    }

    private static void book() {
        VarnishNight x = new VarnishNight();
        Check.due("book(4, 0)", x.book(4, 0), Check.BEYOND);
        Check.due("book(-1, 0)", x.book(-1, 0), Check.BEYOND);
        Check.due("missing, and nobody there", x.book(0, 0), Check.MISSING);
        x.sheet(0, 64, 5);
        Check.due("nobody there", x.book(0, 0), Check.BEYOND);
        x.figure(0, 0, 7);
        Check.due("book(0, -1)", x.book(0, -1), Check.BEYOND);
        Check.due("book(0, 1)", x.book(0, 1), Check.BEYOND);
        Check.due("book(0, 0)", x.book(0, 0), 5);
        long[] first = {750, 746, 742, 738, 734};
        for (int i = 0; i < 5; i++) {
            Check.due("number " + i, x.write(0, i, 0), first[i]);
        }
        Check.due("now(0)", x.now(0), 0);
        x.sheet(1, 8, 1);
        x.book(1, 0);
        Check.due("lowest bits", x.write(1, 0, 0), (byte) 750);
    }

    private static void read() {
        VarnishNight x = new VarnishNight();
        Check.due("read(4, 0)", x.read(4, 0), Check.BEYOND);
        Check.due("read(-1, 0)", x.read(-1, 0), Check.BEYOND);
        Check.due("missing, and nobody there", x.read(0, 0), Check.MISSING);
        x.sheet(0, 64, 0);
        Check.due("nobody there", x.read(0, 0), Check.BEYOND);
        x.figure(0, 0, 7);
        Check.due("read(0, -1)", x.read(0, -1), Check.BEYOND);
        Check.due("read(0, 1)", x.read(0, 1), Check.BEYOND);
        Check.due("an empty sheet: all 6 times 5", x.read(0, 0), 30);
        x.sheet(0, 64, 1);
        Check.due("not so now", x.read(0, 0), 0);
        x.write(0, 0, 750);
        Check.due("just so now", x.read(0, 0), 30);
        x.write(0, 0, 750 + 65536);
        Check.due("as many bits as it has", x.read(0, 0), 0);
        // 750 has no place in 8 bits: no number there is 750.
        x.sheet(1, 8, 1);
        x.write(1, 0, 750);
        Check.due("8 bits", x.read(1, 0), 0);
    }

    private static void readTellsThemApart() {
        VarnishNight x = new VarnishNight();
        x.figure(0, 0, 7);
        x.sheet(0, 64, 2);
        x.book(0, 0);
        // At hour 0 only a sitter rubs by 4; wives and heads wait, mayors rub by 6, aldermen by 12.
        Check.due("a sitter that wants a shorter nose", x.read(0, 0), 1);
        x.write(0, 1, 744);
        Check.due("a mayor", x.read(0, 0), 1);
        x.write(0, 1, 738);
        Check.due("an alderman", x.read(0, 0), 1);
        x.write(0, 1, 750);
        Check.due("all of other wants, and three kinds that wait", x.read(0, 0), 6 * 4 + 3);
        x.write(0, 1, 749);
        Check.due("none", x.read(0, 0), 0);
        Check.due("nothing changed", x.of(0, 0) * 10 + x.of(0, 5), 0);
        x.turn(0, 4);
        x.set(0, 5, 2);
        x.figure(3, 0, 8);
        x.set(0, 6, 1);
        x.book(0, 0);
        Check.due("an alderman that wants farther", x.write(0, 1, 50), 50);
        // 7 columns to the left edge: only the alderman, by 12, is there in an hour.
        Check.due("read", x.read(0, 0), 1);
    }
}
