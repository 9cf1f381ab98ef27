import java.util.function.Consumer;

/** The bounds that promises 26 to 31 and SHEETS name: sheet, write, copy, lays, book, read. */
public final class SheetsBoundsTest {
    private static final int THERE = 3;
    private static final int[] WIDTHS = {8, 16, 64};
    private static final long[] NUMBERS = {
        0, 1, -1, 99, 100, 127, 128, 255, 256, -128, -129, 32767, 32768, 65535, 65536, -32768, -32769, Integer.MAX_VALUE,
        Integer.MIN_VALUE, 1L << 31, 1L << 32, -1L << 32, Long.MAX_VALUE, Long.MAX_VALUE - 1, Long.MIN_VALUE,
        Long.MIN_VALUE + 1, Check.BEYOND, Check.SIZE};

    public static void main(String[] args) {
        sheetAtItsBounds();
        sheetIsAllZero();
        sheetMissing();
        sheetBeyond();
        sheetSize();
        sheetTooLong();
        writeAtItsBounds();
        writeKeepsTheLowestBits();
        writeChangesThatAlone();
        writeBeyondAndMissing();
        copyAtItsBounds();
        copyAsTheyAllWere();
        copyNone();
        copyBeyondSheet();
        copyMissing();
        copyKind();
        copyBeyondNumbers();
        laysAtItsBounds();
        laysFewerAndMore();
        laysBeyondAndMissing();
        bookAtItsBounds();
        bookChangesThatSheetAlone();
        bookBeyondAndMissing();
        readAtItsBounds();
        readTheLast();
        readBeyondAndMissing();
        Check.end();
    }

    /** Sheets 0 to 3, 0 to 40 numbers, of 8, 16 or 64 bits: "n". */
    private static void sheetAtItsBounds() {
        VarnishNight x = new VarnishNight();
        for (int s = 0; s <= 3; s++) {
            for (int bits : WIDTHS) {
                for (int n : new int[] {0, 1, 2, 39, 40}) {
                    String call = "sheet(" + s + ", " + bits + ", " + n + ")";
                    Check.due(call, x.sheet(s, bits, n), n);
                    Check.due(call + ": no number behind the last", x.write(s, n, 1), Check.BEYOND);
                    if (n > 0) {
                        Check.due(call + ": the last", x.write(s, n - 1, 1), 0);
                        Check.due(call + ": the first", x.write(s, 0, 1), n == 1 ? 1 : 0);
                    }
                }
            }
        }
    }

    /** "n numbers, all 0": whatever stood there before, also behind a shorter one. */
    private static void sheetIsAllZero() {
        for (int bits : WIDTHS) {
            VarnishNight x = new VarnishNight();
            x.sheet(2, 64, 40);
            for (int i = 0; i < 40; i++) {
                x.write(2, i, -7);
            }
            x.sheet(2, bits, 1);
            x.sheet(2, bits, 40);
            for (int i = 0; i < 40; i++) {
                Check.due(bits + " bits: number " + i, x.write(2, i, -7), 0);
            }
            x.sheet(2, 0, 40);
            x.sheet(2, bits, 40);
            for (int i = 0; i < 40; i++) {
                Check.due(bits + " bits, after it was missing: number " + i, x.write(2, i, 0), 0);
            }
        }
    }

    /** "bits 0: it is MISSING: n (0 if it is MISSING)." */
    private static void sheetMissing() {
        for (int i = 0; i <= 3; i++) {
            for (int n : new int[] {0, 1, 39, 40}) {
                int s = i;
                VarnishNight x = new VarnishNight();
                Twin.rich(x);
                Check.due("sheet(" + s + ", 0, " + n + ")", x.sheet(s, 0, n), 0);
                Check.due("it is missing", x.write(s, 0, 0), Check.MISSING);
                Check.due("lays()", x.lays(s), Check.MISSING);
                for (int other = 0; other <= 2; other++) {
                    Check.holds("the others are not", other == s || x.copy(other, 0, other, 0, 0) == 0);
                }
                Twin.changed("sheet(3, 0, " + n + "), missing already", 0, Twin::rich, y -> y.sheet(3, 0, n),
                        y -> Check.due("no finding", y.count(0), THERE));
            }
        }
    }

    /** "BEYOND: no such sheet, other bits." Before SIZE, and before n. */
    private static void sheetBeyond() {
        for (int s : Twin.outside(0, 3)) {
            for (int n : new int[] {Integer.MIN_VALUE, -1, 0, 1, 40, 41, Integer.MAX_VALUE}) {
                Twin.refused("sheet(" + s + ", 8, " + n + ")", Check.BEYOND, Twin::rich, x -> x.sheet(s, 8, n));
            }
            Twin.refused("sheet(" + s + ", 7, 1)", Check.BEYOND, Twin::rich, x -> x.sheet(s, 7, 1));
            Twin.refused("sheet(" + s + ", 0, 0)", Check.BEYOND, Twin::rich, x -> x.sheet(s, 0, 0));
        }
        int[] others = {Integer.MIN_VALUE, -64, -16, -8, -1, 1, 2, 4, 7, 9, 15, 17, 24, 32, 63, 65, 128, 256, 264, 65544,
            Integer.MAX_VALUE};
        for (int bits : others) {
            for (int n : new int[] {Integer.MIN_VALUE, -1, 0, 1, 40, 41, Integer.MAX_VALUE}) {
                String call = "sheet(0, " + bits + ", " + n + ")";
                Twin.refused(call, Check.BEYOND, Twin::rich, x -> x.sheet(0, bits, n));
            }
        }
    }

    /** "SIZE: n is below 0 (also with bits 0)." */
    private static void sheetSize() {
        for (int bits : new int[] {0, 8, 16, 64}) {
            for (int n : new int[] {-1, -2, -40, -41, Integer.MIN_VALUE + 40, Integer.MIN_VALUE}) {
                Twin.refused("sheet(1, " + bits + ", " + n + ")", Check.SIZE, Twin::rich, x -> x.sheet(1, bits, n));
                Twin.refused("sheet(3, " + bits + ", " + n + ")", Check.SIZE, Twin::rich, x -> x.sheet(3, bits, n));
            }
        }
    }

    /** "BEYOND: n is above 40 (also with bits 0)." */
    private static void sheetTooLong() {
        for (int bits : new int[] {0, 8, 16, 64}) {
            for (int n : new int[] {41, 42, 256, 65536, Integer.MAX_VALUE - 1, Integer.MAX_VALUE}) {
                Twin.refused("sheet(1, " + bits + ", " + n + ")", Check.BEYOND, Twin::rich, x -> x.sheet(1, bits, n));
                Twin.refused("sheet(3, " + bits + ", " + n + ")", Check.BEYOND, Twin::rich, x -> x.sheet(3, bits, n));
            }
        }
    }

    private static void writeAtItsBounds() {
        for (int bits : WIDTHS) {
            VarnishNight x = new VarnishNight();
            x.sheet(3, bits, 40);
            for (int i : new int[] {0, 1, 38, 39}) {
                Check.due("write(3, " + i + ", 5)", x.write(3, i, 5 + i), 0);
                Check.due("write(3, " + i + ", 6)", x.write(3, i, 6), 5 + i);
            }
        }
    }

    /** "Number i of a sheet becomes v (its lowest bits): what it was." */
    private static void writeKeepsTheLowestBits() {
        long[] was = {0, 0, 0};
        VarnishNight x = new VarnishNight();
        for (int s = 0; s < 3; s++) {
            x.sheet(s, WIDTHS[s], 1);
        }
        for (long v : NUMBERS) {
            for (int s = 0; s < 3; s++) {
                Check.due(WIDTHS[s] + " bits: write(" + s + ", 0, " + v + ")", x.write(s, 0, v), was[s]);
            }
            was[0] = v << 56 >> 56;
            was[1] = v << 48 >> 48;
            was[2] = v;
        }
        Check.due("no finding, whatever they look like", x.status(-1), 0);
    }

    private static void writeChangesThatAlone() {
        for (long v : NUMBERS) {
            Twin.changed("write(1, 1, " + v + ") and back", v << 48 >> 48, Twin::rich, x -> {
                x.write(1, 1, v);
                return x.write(1, 1, 1);
            }, x -> Check.due("no finding", x.count(0), THERE));
        }
    }

    /** "BEYOND: no such sheet. MISSING. BEYOND: no such number." In this order. */
    private static void writeBeyondAndMissing() {
        int[] places = {Integer.MIN_VALUE, -1, 0, 40, Integer.MAX_VALUE};
        for (int s : Twin.outside(0, 3)) {
            for (int i : places) {
                Twin.refused("write(" + s + ", " + i + ", 1)", Check.BEYOND, Twin::rich, x -> x.write(s, i, 1));
            }
        }
        for (int i : places) {
            Twin.refused("write(3, " + i + ", 1)", Check.MISSING, Twin::rich, x -> x.write(3, i, 1));
        }
        for (int i : Twin.outside(0, 2)) {
            Twin.refused("write(0, " + i + ", 1)", Check.BEYOND, Twin::rich, x -> x.write(0, i, Long.MIN_VALUE));
            Twin.refused("write(1, " + i + ", 1)", Check.BEYOND, Twin::rich, x -> x.write(1, i, Long.MAX_VALUE));
        }
        for (int i : Twin.outside(0, 1)) {
            Twin.refused("write(2, " + i + ", 1)", Check.BEYOND, Twin::rich, x -> x.write(2, i, -1));
        }
        Twin.refused("one of no numbers", Check.BEYOND, x -> x.sheet(0, 64, 0), x -> x.write(0, 0, 1));
        Twin.refused("the 41st", Check.BEYOND, x -> x.sheet(0, 64, 40), x -> x.write(0, 40, 1));
    }

    /** Two sheets of so many numbers, from 10 and from 60 on. */
    private static void two(VarnishNight x, int bits, int first, int second) {
        x.sheet(0, bits, first);
        x.sheet(3, bits, second);
        for (int i = 0; i < first; i++) {
            x.write(0, i, 10 + i);
        }
        for (int i = 0; i < second; i++) {
            x.write(3, i, 60 + i);
        }
    }

    /** Every from, to and n that two short sheets have room for, and each that they have not. */
    private static void copyAtItsBounds() {
        for (int bits : WIDTHS) {
            for (int from = -1; from <= 4; from++) {
                for (int to = -1; to <= 5; to++) {
                    for (int n = -1; n <= 5; n++) {
                        copyOne(bits, from, to, n);
                    }
                }
            }
        }
        VarnishNight x = new VarnishNight();
        two(x, 64, 40, 40);
        Check.due("all of 40", x.copy(0, 0, 3, 0, 40), 40);
        for (int i = 0; i < 40; i++) {
            Check.due("number " + i, x.write(3, i, 0), 10 + i);
        }
        Check.due("one more", x.copy(0, 0, 3, 0, 41), Check.BEYOND);
        Check.due("the last to the first", x.copy(0, 39, 3, 0, 1), 1);
        Check.due("it is there", x.write(3, 0, 0), 49);
        Check.due("the first to the last", x.copy(0, 0, 3, 39, 1), 1);
        Check.due("it is there", x.write(3, 39, 0), 10);
    }

    private static void copyOne(int bits, int from, int to, int n) {
        VarnishNight x = new VarnishNight();
        two(x, bits, 3, 4);
        boolean may = from >= 0 && to >= 0 && n >= 0 && from + n <= 3 && to + n <= 4;
        String call = bits + " bits: copy(0, " + from + ", 3, " + to + ", " + n + ")";
        Check.due(call, x.copy(0, from, 3, to, n), may ? n : Check.BEYOND);
        for (int i = 0; i < 4; i++) {
            boolean came = may && i >= to && i < to + n;
            Check.due(call + ": number " + i, x.write(3, i, 0), came ? 10 + from + i - to : 60 + i);
        }
        for (int i = 0; i < 3; i++) {
            Check.due(call + ": it stays, " + i, x.write(0, i, 0), 10 + i);
        }
        Check.due(call + ": status(0)", x.status(0), may ? 0 : 1);
    }

    /** "(as they all were)": in one sheet, each way over each other. */
    private static void copyAsTheyAllWere() {
        for (int from = 0; from <= 5; from++) {
            for (int to = 0; to <= 5; to++) {
                for (int n = 0; n <= 5 - Math.max(from, to); n++) {
                    VarnishNight x = new VarnishNight();
                    two(x, 16, 5, 0);
                    Check.due("copy(0, " + from + ", 0, " + to + ", " + n + ")", x.copy(0, from, 0, to, n), n);
                    for (int i = 0; i < 5; i++) {
                        int due = i >= to && i < to + n ? 10 + from + i - to : 10 + i;
                        Check.due("number " + i, x.write(0, i, 0), due);
                    }
                }
            }
        }
    }

    /** None to copy is no finding, also from and to behind the last, and with sheets of none. */
    private static void copyNone() {
        Consumer<VarnishNight> nothing = x -> Check.due("no finding", x.count(0), THERE);
        Twin.changed("copy(0, 0, 0, 0, 0)", 0, Twin::rich, x -> x.copy(0, 0, 0, 0, 0), nothing);
        Twin.changed("copy(1, 3, 1, 3, 0)", 0, Twin::rich, x -> x.copy(1, 3, 1, 3, 0), nothing);
        VarnishNight x = new VarnishNight();
        two(x, 8, 0, 0);
        Check.due("sheets of none", x.copy(0, 0, 3, 0, 0), 0);
        Check.due("one of a sheet of none", x.copy(0, 0, 3, 0, 1), Check.BEYOND);
        Check.due("from 1 in a sheet of none", x.copy(0, 1, 3, 0, 0), Check.BEYOND);
    }

    /** "BEYOND: no such sheet (either)." Before MISSING, KIND and the rest. */
    private static void copyBeyondSheet() {
        for (int s : Twin.outside(0, 3)) {
            for (int t : new int[] {0, 3, s}) {
                String call = "copy(" + s + ", 0, " + t + ", 0, 1)";
                Twin.refused(call, Check.BEYOND, Twin::rich, x -> x.copy(s, 0, t, 0, 1));
                call = "copy(" + t + ", -1, " + s + ", 0, -1)";
                Twin.refused(call, Check.BEYOND, Twin::rich, x -> x.copy(t, -1, s, 0, -1));
            }
        }
    }

    /** "MISSING: one is." Before KIND and the rest. */
    private static void copyMissing() {
        for (int i = 0; i <= 3; i++) {
            int t = i;
            for (int n : new int[] {Integer.MIN_VALUE, -1, 0, 1, 41, Integer.MAX_VALUE}) {
                Twin.refused("copy(3, 0, " + t + ", 0, " + n + ")", Check.MISSING, Twin::rich, x -> x.copy(3, 0, t, 0, n));
                Twin.refused("copy(" + t + ", 0, 3, 0, " + n + ")", Check.MISSING, Twin::rich, x -> x.copy(t, 0, 3, 0, n));
            }
        }
    }

    /** "KIND: they are not of as many bits." Before the rest. */
    private static void copyKind() {
        int[][] pairs = {{0, 1}, {1, 0}, {0, 2}, {2, 0}, {1, 2}, {2, 1}};
        for (int[] p : pairs) {
            for (int n : new int[] {Integer.MIN_VALUE, -1, 0, 1, 41, Integer.MAX_VALUE}) {
                String call = "copy(" + p[0] + ", 0, " + p[1] + ", 0, " + n + ")";
                Twin.refused(call, Check.KIND, Twin::rich, x -> x.copy(p[0], 0, p[1], 0, n));
            }
            Twin.refused("from -1", Check.KIND, Twin::rich, x -> x.copy(p[0], -1, p[1], -1, 0));
        }
    }

    /** "BEYOND: one has not so many, or from, to or n is below 0." No sum may wrap around. */
    private static void copyBeyondNumbers() {
        for (int v : Twin.outside(0, 3)) {
            Twin.refused("copy(1, " + v + ", 1, 0, 0)", Check.BEYOND, Twin::rich, x -> x.copy(1, v, 1, 0, 0));
            Twin.refused("copy(1, 0, 1, " + v + ", 0)", Check.BEYOND, Twin::rich, x -> x.copy(1, 0, 1, v, 0));
            Twin.refused("copy(1, 0, 1, 0, " + v + ")", Check.BEYOND, Twin::rich, x -> x.copy(1, 0, 1, 0, v));
            Twin.refused("copy(1, " + v + ", 1, 0, " + v + ")", Check.BEYOND, Twin::rich, x -> x.copy(1, v, 1, 0, v));
            Twin.refused("copy(1, 0, 1, " + v + ", " + -v + ")", Check.BEYOND, Twin::rich, x -> x.copy(1, 0, 1, v, -v));
            Twin.refused("copy(1, 1, 1, 0, " + v + ")", Check.BEYOND, Twin::rich, x -> x.copy(1, 1, 1, 0, v));
            Twin.refused("copy(1, 0, 1, 2, " + v + ")", Check.BEYOND, Twin::rich, x -> x.copy(1, 0, 1, 2, v));
        }
    }

    /** "(those that aren't 0 to 99 .. are left out): how many came." */
    private static void laysAtItsBounds() {
        for (int bits : WIDTHS) {
            for (long v : new long[] {0, 1, 98, 99, 100, 101, -1, -2, 127, 128, 255, 256, 300, 32767, 32768, 65536 + 7,
                (1L << 32) + 7, -(1L << 32) + 7, Long.MIN_VALUE, Long.MIN_VALUE + 7, Long.MAX_VALUE}) {
                laysOne(bits, v);
            }
        }
    }

    private static void laysOne(int bits, long v) {
        VarnishNight x = new VarnishNight();
        for (int i = 0; i < 3; i++) {
            x.figure(0, 0, 0);
        }
        x.sheet(2, bits, 3);
        x.write(2, 0, 1);
        x.write(2, 1, v);
        x.write(2, 2, 2);
        long there = v << (64 - bits) >> (64 - bits);
        boolean comes = there >= 0 && there <= 99;
        Check.due(bits + " bits of " + v + ": lays(2)", x.lays(2), comes ? 3 : 2);
        Check.due(bits + " bits of " + v + ": its nose", x.of(1, 3), comes ? there : 50);
        Check.due("the one before", x.of(0, 3), 1);
        Check.due("the one behind", x.of(2, 3), 2);
        Check.due("the sheet stays", x.write(2, 1, 0), there);
    }

    /** "or stand for none": a sheet longer than there are figures, one shorter, one of none, and nobody there. */
    private static void laysFewerAndMore() {
        for (int figures = 0; figures <= 8; figures++) {
            for (int n : new int[] {0, 1, 7, 8, 9, 40}) {
                VarnishNight x = new VarnishNight();
                for (int i = 0; i < figures; i++) {
                    x.figure(i % 6, i % 4, i);
                }
                x.sheet(0, 8, n);
                for (int i = 0; i < n; i++) {
                    x.write(0, i, i);
                }
                String where = figures + " figures, " + n + " numbers: ";
                Check.due(where + "lays(0)", x.lays(0), Math.min(figures, n));
                for (int i = 0; i < figures; i++) {
                    Check.due(where + "nose of " + i, x.of(i, 3), i < n ? i : 50);
                }
                Check.due(where + "count(0)", x.count(0), figures);
            }
        }
        Twin.changed("lays(1)", 1, Twin::rich, x -> x.lays(1), x -> x.set(1, 3, 1));
    }

    private static void laysBeyondAndMissing() {
        for (int s : Twin.outside(0, 3)) {
            Twin.refused("lays(" + s + ")", Check.BEYOND, Twin::rich, x -> x.lays(s));
        }
        Twin.refused("lays(3)", Check.MISSING, Twin::rich, x -> x.lays(3));
        Twin.refused("nobody: lays(0)", Check.MISSING, Twin::empty, x -> x.lays(0));
    }

    /** "0, 1, 2, .. HOURS AHEAD comes to a sheet, as many as it has numbers: how many." */
    private static void bookAtItsBounds() {
        for (int bits : WIDTHS) {
            for (int n : new int[] {0, 1, 2, 39, 40}) {
                VarnishNight x = new VarnishNight();
                x.figure(0, 0, 19);
                x.set(0, 3, 99);
                x.tacky(0);
                x.sheet(1, bits, n);
                Check.due("book of " + n, x.book(1, 0), n);
                for (int i = 0; i < n; i++) {
                    long look = 1900 + 99 - 2 * i;
                    Check.due(bits + " bits: number " + i, x.write(1, i, 0), look << (64 - bits) >> (64 - bits));
                }
                Check.due("the hour", x.now(0), 0);
                Check.due("no finding", x.status(-1), 0);
            }
        }
        VarnishNight x = new VarnishNight();
        x.figure(3, 0, 0);
        x.set(0, 3, 0);
        x.sheet(0, 64, 1);
        x.write(0, 0, 7);
        Check.due("the least look", x.book(0, 0), 1);
        Check.due("is 0", x.write(0, 0, 0), 0);
    }

    private static void bookChangesThatSheetAlone() {
        for (int i = 0; i < THERE; i++) {
            int figure = i;
            Twin.changed("book(1, " + figure + "), and a sheet anew", 3, Twin::rich, x -> {
                int had = x.book(1, figure);
                x.sheet(1, 16, 3);
                return had;
            }, x -> x.sheet(1, 16, 3));
        }
    }

    /** "BEYOND: no such sheet. MISSING. BEYOND: figure." In this order. */
    private static void bookBeyondAndMissing() {
        for (int s : Twin.outside(0, 3)) {
            Twin.refused("book(" + s + ", 0)", Check.BEYOND, Twin::rich, x -> x.book(s, 0));
            Twin.refused("book(" + s + ", 3)", Check.BEYOND, Twin::rich, x -> x.book(s, 3));
        }
        for (int figure : new int[] {Integer.MIN_VALUE, -1, 0, 2, 3, Integer.MAX_VALUE}) {
            Twin.refused("book(3, " + figure + ")", Check.MISSING, Twin::rich, x -> x.book(3, figure));
        }
        for (int figure : Twin.outside(0, THERE - 1)) {
            Twin.refused("book(1, " + figure + ")", Check.BEYOND, Twin::rich, x -> x.book(1, figure));
        }
        Twin.refused("book(1, 8) of eight", Check.BEYOND, Twin::full, x -> x.book(1, 8));
        Twin.refused("a sheet of none, nobody there", Check.BEYOND, x -> x.sheet(0, 8, 0), x -> x.book(0, 0));
    }

    /** "how many pairs of a KIND and a WANT (0 to 4) of it make it just so": 0 to 30. */
    private static void readAtItsBounds() {
        VarnishNight x = new VarnishNight();
        x.figure(0, 0, 19);
        x.set(0, 3, 99);
        x.sheet(0, 64, 0);
        Check.due("a sheet of none: every pair", x.read(0, 0), 30);
        x.sheet(0, 64, 1);
        for (long v : new long[] {1998, 2000, 0, -1, -1999, 1999 + (1L << 32), 1999 + Long.MIN_VALUE, Long.MAX_VALUE}) {
            x.write(0, 0, v);
            Check.due(v + ": no pair", x.read(0, 0), 0);
        }
        x.write(0, 0, 1999);
        Check.due("1999: every pair", x.read(0, 0), 30);
        x.sheet(0, 16, 1);
        x.write(0, 0, 1999);
        Check.due("1999 in 16 bits: every pair", x.read(0, 0), 30);
        x.set(0, 3, 0);
        x.set(0, 2, 0);
        x.write(0, 0, 0);
        Check.due("0: every pair", x.read(0, 0), 30);
        x.set(0, 3, 99);
        x.sheet(1, 8, 1);
        x.write(1, 0, 99);
        Check.due("99 in 8 bits: every pair", x.read(1, 0), 30);
        Check.due("no finding", x.status(-1), 0);
    }

    /** All 40 numbers are read: one that is wrong at any place is seen. */
    private static void readTheLast() {
        VarnishNight x = new VarnishNight();
        x.figure(0, 0, 19);
        x.set(0, 3, 99);
        x.tacky(0);
        x.sheet(2, 64, 40);
        x.book(2, 0);
        Check.due("a sitter that wants a shorter nose alone", x.read(2, 0), 1);
        for (int i : new int[] {0, 1, 2, 38, 39}) {
            long was = x.write(2, i, 5);
            Check.due("number " + i + " is wrong", x.read(2, 0), 0);
            x.write(2, i, was);
        }
        Check.due("as it was", x.read(2, 0), 1);
        for (int i = 0; i < THERE; i++) {
            int figure = i;
            Twin.asked("read(1, " + figure + ")", 0, Twin::rich, y -> y.read(1, figure));
            Twin.asked("read(2, " + figure + ")", 0, Twin::rich, y -> y.read(2, figure));
        }
    }

    private static void readBeyondAndMissing() {
        for (int s : Twin.outside(0, 3)) {
            Twin.refused("read(" + s + ", 0)", Check.BEYOND, Twin::rich, x -> x.read(s, 0));
            Twin.refused("read(" + s + ", 3)", Check.BEYOND, Twin::rich, x -> x.read(s, 3));
        }
        for (int figure : new int[] {Integer.MIN_VALUE, -1, 0, 2, 3, Integer.MAX_VALUE}) {
            Twin.refused("read(3, " + figure + ")", Check.MISSING, Twin::rich, x -> x.read(3, figure));
        }
        for (int figure : Twin.outside(0, THERE - 1)) {
            Twin.refused("read(1, " + figure + ")", Check.BEYOND, Twin::rich, x -> x.read(1, figure));
        }
        Twin.refused("read(1, 8) of eight", Check.BEYOND, Twin::full, x -> x.read(1, 8));
        Twin.refused("a sheet of none, nobody there", Check.BEYOND, x -> x.sheet(0, 8, 0), x -> x.read(0, 0));
    }
}
