/** Promises 23 to 25, the text of a night and its fault. */
public final class TextTest {
    public static void main(String[] args) {
        feed();
        feedTakesTheLowestBytes();
        wipe();
        kinds();
        wants();
        outAndIn();
        tacky();
        tokens();
        faults();
        theNinth();
        faultChangesNothing();
        longest();
        Check.end();
    }

    private static void feed() {
        VarnishNight x = new VarnishNight();
        Check.due("feed(0, 0)", x.feed(0, 0), Check.BEYOND);
        Check.due("feed(0, 5)", x.feed(0, 5), Check.BEYOND);
        Check.due("feed(0, -1)", x.feed(0, -1), Check.BEYOND);
        for (int n = 1; n <= 4; n++) {
            Check.due("feed(0, " + n + ")", x.feed(0, n), n * (n + 1) / 2);
        }
        for (int i = 0; i < 27; i++) {
            x.feed(0, 4);
        }
        Check.due("count(1)", x.count(1), 118);
        Check.due("feed(0, 4): too many", x.feed(0, 4), Check.FULL);
        Check.due("feed(0, 3): too many", x.feed(0, 3), Check.FULL);
        Check.due("count(1)", x.count(1), 118);
        Check.due("feed(0, 5)", x.feed(0, 5), Check.BEYOND);
        Check.due("feed(0, 2): just so", x.feed(0, 2), 120);
        Check.due("feed(0, 1): too many", x.feed(0, 1), Check.FULL);
        Check.due("status(1)", x.status(1), 3);
        Check.due("status(0)", x.status(0), 4);
    }

    private static void feedTakesTheLowestBytes() {
        VarnishNight x = new VarnishNight();
        x.feed('t' << 24 | 'a' << 16 | 'c' << 8 | 'k', 4);
        x.feed(0xFFFF0000 | 'y' << 8 | ' ', 2);
        x.feed(0xFFFFFF00 | '7', 1);
        Check.due("count(1)", x.count(1), 7);
        Check.due("night()", x.night(), 1);
        Check.due("tacky(4)", x.tacky(4), 7);
        // A byte above 127 begins no token, and is no blank.
        x.feed(0xA0, 1);
        Check.due("night()", x.night(), -1);
        x.feed('t' << 24 | 'a' << 16 | 'c' << 8 | 'k', 4);
        x.feed('y' << 16 | ' ' << 8 | 0xB7, 3);
        Check.due("night()", x.night(), -7);
    }

    private static void wipe() {
        VarnishNight x = new VarnishNight();
        Check.due("wipe()", x.wipe(), 0);
        Check.feed(x, "sitter");
        Check.due("wipe()", x.wipe(), 6);
        Check.due("wipe() again", x.wipe(), 0);
        Check.due("count(1)", x.count(1), 0);
        Check.due("what was wiped is gone", Check.night(x, "mayor 1 2"), 1);
        Check.due("of(0, 0)", x.of(0, 0), 1);
    }

    private static void kinds() {
        String[] names = {"sitter", "mayor", "wife", "fisher", "alderman", "head"};
        for (int kind = 0; kind < names.length; kind++) {
            VarnishNight x = new VarnishNight();
            Check.due(names[kind], Check.night(x, names[kind] + " 3 19"), 1);
            long[] first = {kind, 3, 19, 50, 0, 0, -1, 0, 0};
            for (int what = 0; what < first.length; what++) {
                Check.due(names[kind] + ": of(0, " + what + ")", x.of(0, what), first[what]);
            }
            Check.due("with a nose", Check.night(x, names[kind] + " 0 0 nose 99"), 1);
            Check.due("of(1, 3)", x.of(1, 3), 99);
            Check.due("of(1, 4)", x.of(1, 4), 0);
            Check.due("lit", Check.night(x, names[kind] + " 0 0 lit"), 1);
            Check.due("of(2, 3)", x.of(2, 3), 50);
            Check.due("of(2, 4)", x.of(2, 4), 1);
            Check.due("both", Check.night(x, names[kind] + " 0 0 nose 0 lit"), 1);
            Check.due("of(3, 3)", x.of(3, 3), 0);
            Check.due("of(3, 4)", x.of(3, 4), 1);
            Check.due("the tape is empty", x.count(1), 0);
        }
    }

    private static void wants() {
        VarnishNight x = new VarnishNight();
        Check.due("two", Check.night(x, "sitter 0 0; sitter 0 5; wants 0 nearer 1; wants 1 farther 0"), 4);
        Check.due("want of 0", x.of(0, 5), 1);
        Check.due("whom of 0", x.of(0, 6), 1);
        Check.due("want of 1", x.of(1, 5), 2);
        Check.due("whom of 1", x.of(1, 6), 0);
        Check.due("wants 0 shorter", Check.night(x, "wants 0 shorter"), 1);
        Check.due("want of 0", x.of(0, 5), 0);
        Check.due("whom stays", x.of(0, 6), 1);
        Check.due("wants 0 lit", Check.night(x, "wants 0 lit"), 1);
        Check.due("want of 0", x.of(0, 5), 4);
        Check.due("the lamp stays", x.of(0, 4), 0);
        Check.due("wants 0 dark", Check.night(x, "wants 0 dark"), 1);
        Check.due("want of 0", x.of(0, 5), 3);
        Check.due("whom stays", x.of(0, 6), 1);
        Check.due("itself", Check.night(x, "wants 0 farther 0"), 1);
        Check.due("whom of 0", x.of(0, 6), 0);
    }

    private static void outAndIn() {
        VarnishNight x = new VarnishNight();
        Check.due("out", Check.night(x, "sitter 0 0;out 0;sitter 0 0;out 1;in 0"), 5);
        Check.due("now(6)", x.now(6), 2);
        Check.due("in 1", Check.night(x, "in 1"), 1);
        Check.due("now(6)", x.now(6), 0);
        Check.due("in 1 again", Check.night(x, "in 1"), 1);
        Check.due("out 2", Check.night(x, "out 2"), -5);
    }

    private static void tacky() {
        VarnishNight x = new VarnishNight();
        Check.due("tacky 8", Check.night(x, "tacky 8"), 1);
        Check.due("tacky(4)", x.tacky(4), 8);
        Check.due("the last counts", Check.night(x, "tacky 0;tacky 3;tacky 2"), 3);
        Check.due("tacky(4)", x.tacky(4), 2);
    }

    private static void tokens() {
        VarnishNight x = new VarnishNight();
        Check.due("blanks may stand", Check.night(x, "   sitter  0   5  nose 7  lit  ;  tacky   1   "), 2);
        Check.due("of(0, 3)", x.of(0, 3), 7);
        Check.due("they need not", Check.night(x, "sitter1 5nose8lit;tacky2"), 2);
        Check.due("of(1, 3)", x.of(1, 3), 8);
        Check.due("numbers as long as can be", Check.night(x, "sitter 15"), -8);
        Check.due("zeros ahead", Check.night(x, "sitter 0003 00000000019 nose 0012"), 1);
        Check.due("of(2, 2)", x.of(2, 2), 19);
        Check.due("of(2, 3)", x.of(2, 3), 12);
        Check.due("words as long as can be", Check.night(x, "sitters 0 0"), -1);
        Check.due("words as long as can be", Check.night(x, "sitter 0 0 noselit"), -12);
        Check.due("a part of a word", Check.night(x, "sitte 0 0"), -1);
        Check.due("capitals", Check.night(x, "Sitter 0 0"), -1);
        Check.due("a tab is no blank", Check.night(x, "sitter\t0 0"), -7);
        Check.due("a line's end is none", Check.night(x, "sitter 0 0\n"), -11);
        Check.due("a number too long for an int", Check.night(x, "tacky 99999999999999999999"), -7);
        Check.due("one that would wrap around to 0", Check.night(x, "tacky 4294967296"), -7);
        Check.due("one that would wrap around to 1", Check.night(x, "tacky 18446744073709551617"), -7);
    }

    private static void fault(String text, int place) {
        VarnishNight x = new VarnishNight();
        Check.night(x, "sitter 1 5; mayor 1 9");
        Check.due("'" + text + "'", Check.night(x, text), -1 - place);
        Check.due("the tape is empty after '" + text + "'", x.count(1), 0);
        Check.due("no finding after '" + text + "'", x.status(-1), 0);
    }

    private static void faults() {
        fault("", 0);
        fault("   ", 3);
        fault(";", 0);
        fault("tacky 1;", 8);
        fault("tacky 1; ", 9);
        fault("tacky 1;;tacky 2", 8);
        fault("tacky 1 tacky 2", 8);
        fault("tacky 1 2", 8);
        fault("tacky", 5);
        fault("tacky  ", 7);
        fault("tacky 9", 6);
        fault("tacky x", 6);
        fault("tacky ;", 6);
        fault("tacky -1", 6);
        fault("tacky 1.", 7);
        fault("5", 0);
        fault("nose 5", 0);
        fault("lit", 0);
        fault("shorter", 0);
        fault("sitter", 6);
        fault("sitter x", 7);
        fault("sitter 4 0", 7);
        fault("sitter 3", 8);
        fault("sitter 3 20", 9);
        fault("sitter 3 ;", 9);
        fault("sitter 3 19 5", 12);
        fault("sitter 3 19 nose", 16);
        fault("sitter 3 19 nose 100", 17);
        fault("sitter 3 19 nose lit", 17);
        fault("sitter 3 19 nose 5 nose 6", 19);
        fault("sitter 3 19 lit nose 6", 16);
        fault("sitter 3 19 lit lit", 16);
        fault("sitter 3 19 dark", 12);
        fault("sitter 3 19?", 11);
        fault("wants", 5);
        fault("wants 2 lit", 6);
        fault("wants 0", 7);
        fault("wants 0 5", 8);
        fault("wants 0 nose", 8);
        fault("wants 0 nearer", 14);
        fault("wants 0 nearer 2", 15);
        fault("wants 0 nearer lit", 15);
        fault("wants 0 farther ;", 16);
        fault("wants 0 lit 1", 12);
        fault("wants 0 shorter 1", 16);
        fault("wants 0 dark lit", 13);
        fault("out", 3);
        fault("out 2", 4);
        fault("in 2", 3);
        fault("in x", 3);
        fault("in 0 1", 5);
        fault("sitter 0 0; wants 3 lit", 18);
        fault("wants 2 lit; sitter 0 0", 6);
        fault("sitter 0 0; wants 2 nearer 3", 27);
        fault("sitter 0 0; tacky 9; ?", 18);
        fault("sit?er", 0);
        fault("?", 0);
        fault("titter 0 0", 0);
        fault("sitter 0 0 litz", 11);
        fault("sitter 0 0 alit", 11);
        fault("zz", 0);
        fault("tacky 1\0", 7);
        fault("\0", 0);
        fault("tacky 1`", 7);
        fault("tacky 1{", 7);
        fault("tacky 1/", 7);
        fault("tacky 1:", 7);
        fault("sitter 0", 8);
        fault("sitter 0 1 nose 1 ;", 19);
        fault("sitter 0 1 nose 1000", 16);
        VarnishNight x = new VarnishNight();
        Check.due("nobody there", Check.night(x, "wants 0 lit"), -7);
        Check.due("one there by then", Check.night(x, "sitter 0 0; wants 0 lit"), 2);
    }

    private static void theNinth() {
        VarnishNight x = new VarnishNight();
        for (int i = 0; i < 7; i++) {
            x.figure(0, 0, 0);
        }
        Check.due("a 9th", Check.night(x, "head 0 0; wife 0 0"), -11);
        Check.due("nobody came", x.count(0), 7);
        Check.due("a 9th before its numbers", Check.night(x, "head 0 0; wife 9 9"), -11);
        Check.due("an 8th", Check.night(x, "head 0 0"), 1);
        Check.due("a 9th", Check.night(x, "tacky 1; wife"), -10);
        Check.due("no kind: another word", Check.night(x, "tacky 1; wive"), -10);
        Check.due("status(-1)", x.status(-1), 0);
    }

    private static void faultChangesNothing() {
        VarnishNight x = new VarnishNight();
        Check.night(x, "sitter 0 3 nose 20 lit; mayor 1 4; wants 0 nearer 1; tacky 3");
        x.hours(3);
        String before = Check.told(x);
        Check.due("a fault at the end",
                Check.night(x, "head 2 2 nose 1; wants 0 farther 2; out 0; tacky 0; in 3"), -56);
        Check.holds("a fault changes nothing", before.equals(Check.told(x)));
    }

    private static void longest() {
        VarnishNight x = new VarnishNight();
        StringBuilder text = new StringBuilder();
        x.figure(0, 0, 0);
        for (int i = 0; i < 30; i++) {
            text.append(i == 29 ? "in 0" : "in0;");
        }
        Check.due("120 bytes", text.length(), 120);
        Check.due("30 items", Check.night(x, text.toString()), 30);
        text.setCharAt(119, ';');
        Check.due("120 bytes and a fault", Check.night(x, text.toString()), -120);
        text.setCharAt(119, '1');
        Check.due("a fault in the last byte", Check.night(x, text.toString()), -120);
    }
}
