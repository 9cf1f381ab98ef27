import java.util.List;
import java.util.Map;
import java.util.TreeMap;
import java.util.function.Consumer;

/** The bounds that promises 23 to 25 and THE TEXT name: feed, wipe, night, and every way to a fault. */
public final class TextBoundsTest {
    private static final List<String> KINDS = List.of("sitter", "mayor", "wife", "fisher", "alderman", "head");
    /** Every word that the text knows, some that it doesn't, numbers about every bound, the sign, and no token. */
    private static final List<String> TOKENS = List.of(
            "sitter", "mayor", "wife", "fisher", "alderman", "head", "nose", "lit", "wants", "shorter", "dark", "nearer",
            "farther", "out", "in", "tacky", "a", "z", "sitters", "hea", "inn", "ou", "jn", "titter", "mit",
            "wantstacky",
            "0", "1", "2", "3", "4", "7", "8", "9", "10", "18", "19", "20", "21", "50", "98", "99", "100", "101", "127",
            "128", "255", "256", "998", "999", "1000", "1001", "4294967296", "4294967297", "18446744073709551616",
            ";", "?", "A", "-", "\t", "\u0000", "\u00a0", "\u00ff");

    public static void main(String[] args) {
        feedAtItsBounds();
        feedTakesTheLowest();
        feedBeyond();
        feedFull();
        beyondComesBeforeFull();
        wipeOfNoneAndOfAll();
        wipeChangesTheTapeAlone();
        everyTokenEverywhere();
        numbersOfThoseThereByThen();
        everyByte();
        blanksMayStandBetween();
        tokensAreAsLongAsCanBe();
        zerosAhead();
        endsTooEarly();
        theNinth();
        faultEmptiesTheTapeAlone();
        itemsComeToWhatThereIs();
        mostItems();
        Check.end();
    }

    private static void fill(VarnishNight x, int length) {
        Check.feed(x, " ".repeat(length));
    }

    /** "THE TAPE (bytes, at most 120)", "the n lowest bytes .. (n 1 to 4): how many it has." */
    private static void feedAtItsBounds() {
        for (int length : new int[] {0, 1, 115, 116, 117, 118, 119, 120}) {
            for (int i = 1; i <= 4; i++) {
                int n = i;
                String call = "with " + length + ": feed(0, " + n + ")";
                if (length + n > 120) {
                    Twin.refused(call, Check.FULL, x -> fill(x, length), x -> x.feed(0, n));
                } else {
                    Twin.changed(call, length + n, x -> fill(x, length), x -> x.feed(0, n), x -> zeros(x, n));
                }
            }
        }
    }

    private static void zeros(VarnishNight x, int n) {
        for (int i = 0; i < n; i++) {
            x.feed(0, 1);
        }
    }

    /** "the highest of these first": what stands above them is not looked at. */
    private static void feedTakesTheLowest() {
        int ins = 'i' << 24 | 'n' << 16 | ' ' << 8 | '0';
        for (int above : new int[] {0, -1, Integer.MIN_VALUE, Integer.MAX_VALUE, 0x5A5A5A5A}) {
            VarnishNight x = new VarnishNight();
            x.figure(0, 0, 0);
            x.set(0, 7, 1);
            x.feed(above << 8 | 'i', 1);
            x.feed(above << 16 | 'n' << 8 | ' ', 2);
            Check.due("four bytes", x.feed(above << 8 | '0', 1), 4);
            Check.due("night()", x.night(), 1);
            Check.due("it is in", x.of(0, 7), 0);
            x.set(0, 7, 1);
            Check.due("three bytes", x.feed(above << 24 | ins >>> 8, 3), 3);
            Check.due("ends too early", x.night(), -4);
            Check.due("four at once", x.feed(ins, 4), 4);
            Check.due("night()", x.night(), 1);
        }
        for (int bytes : new int[] {Integer.MIN_VALUE, Integer.MAX_VALUE, -1, 0, 1, 255, 256}) {
            VarnishNight x = new VarnishNight();
            for (int n = 1; n <= 4; n++) {
                Check.due("feed(" + bytes + ", " + n + ")", x.feed(bytes, n), n * (n + 1) / 2);
            }
        }
    }

    private static void feedBeyond() {
        for (int n : Twin.outside(1, 4)) {
            for (int bytes : new int[] {Integer.MIN_VALUE, 0, Integer.MAX_VALUE}) {
                Twin.refused("feed(" + bytes + ", " + n + ")", Check.BEYOND, Twin::rich, x -> x.feed(bytes, n));
            }
        }
    }

    private static void feedFull() {
        for (int i = 1; i <= 4; i++) {
            int n = i;
            for (int bytes : new int[] {Integer.MIN_VALUE, 0, Integer.MAX_VALUE}) {
                Twin.refused("full: feed(" + bytes + ", " + n + ")", Check.FULL, Twin::full, x -> x.feed(bytes, n));
            }
        }
    }

    private static void beyondComesBeforeFull() {
        for (int n : Twin.outside(1, 4)) {
            Twin.refused("full: feed(0, " + n + ")", Check.BEYOND, Twin::full, x -> x.feed(0, n));
        }
    }

    /** "THE TAPE is empty: how many it had." */
    private static void wipeOfNoneAndOfAll() {
        for (int length : new int[] {0, 1, 119, 120}) {
            VarnishNight x = new VarnishNight();
            fill(x, length);
            Check.due("with " + length + ": wipe()", x.wipe(), length);
            Check.due("count(1)", x.count(1), 0);
            Check.due("wipe() again", x.wipe(), 0);
            Check.due("night()", x.night(), -1);
            fill(x, 120);
            Check.due("there is room for all again", x.count(1), 120);
        }
    }

    private static void wipeChangesTheTapeAlone() {
        Twin.changed("wipe() of a night, and the same text again", 20, Twin::rich, x -> {
            int had = x.wipe();
            Check.feed(x, "tacky 6; in 1; out 2");
            return had;
        }, x -> Check.due("count(1)", x.count(1), 20));
    }

    /** Which tokens may stand behind a beginning, each with what makes it a whole text, or null if nothing does. */
    private static Map<String, String> may(String... tokens) {
        Map<String, String> may = new TreeMap<>();
        for (int i = 0; i < tokens.length; i += 2) {
            may.put(tokens[i], tokens[i + 1]);
        }
        return may;
    }

    private static Map<String, String> numbers(int most, String behind) {
        Map<String, String> may = new TreeMap<>();
        for (int i = 0; i <= most; i++) {
            may.put(String.valueOf(i), behind);
        }
        return may;
    }

    private static Map<String, String> both(Map<String, String> one, Map<String, String> other) {
        Map<String, String> may = new TreeMap<>(one);
        may.putAll(other);
        return may;
    }

    /** What may begin an item with so many there. */
    private static Map<String, String> item(int there) {
        Map<String, String> may = may("tacky", " 0", "wants", null, "out", null, "in", null);
        if (there > 0) {
            may.putAll(may("wants", " 0 lit", "out", " 0", "in", " 0"));
        }
        if (there < 8) {
            KINDS.forEach(kind -> may.put(kind, " 3 19"));
        }
        return may;
    }

    /** "each way to a FAULT": behind every beginning every token stands, or is the fault. */
    private static void everyTokenEverywhere() {
        for (int there : new int[] {0, 1, 2, 7, 8}) {
            Map<String, String> next = may(";", " tacky 0");
            stand(there, "", item(there));
            stand(there, "tacky 8 ;", item(there));
            stand(there, "tacky", numbers(8, ""));
            stand(there, "tacky 0", next);
            stand(there, "wants", numbers(there - 1, " lit"));
            stand(there, "out", numbers(there - 1, ""));
            stand(there, "in", numbers(there - 1, ""));
            if (there > 0) {
                inItemsOfThoseThere(there, next);
            }
            if (there < 8) {
                inItemsOfKinds(there, next);
            }
        }
    }

    private static void inItemsOfThoseThere(int there, Map<String, String> next) {
        int last = there - 1;
        stand(there, "out " + last, next);
        stand(there, "in " + last, next);
        stand(there, "wants " + last,
                may("shorter", "", "lit", "", "dark", "", "nearer", " " + last, "farther", " 0"));
        stand(there, "wants 0 nearer", numbers(last, ""));
        stand(there, "wants 0 farther", numbers(last, ""));
        stand(there, "wants 0 nearer " + last, next);
        stand(there, "wants 0 farther 0", next);
        for (String want : new String[] {"shorter", "lit", "dark"}) {
            stand(there, "wants " + last + " " + want, next);
        }
    }

    private static void inItemsOfKinds(int there, Map<String, String> next) {
        Map<String, String> lit = may("lit", "");
        Map<String, String> nose = may("nose", " 0");
        for (String kind : KINDS) {
            stand(there, kind, numbers(3, " 19"));
            stand(there, kind + " 3", numbers(19, ""));
            stand(there, kind + " 3 19", both(both(nose, lit), next));
            stand(there, kind + " 3 19 nose", numbers(99, ""));
            stand(there, kind + " 3 19 nose 99", both(lit, next));
            stand(there, kind + " 3 19 nose 0 lit", next);
            stand(there, kind + " 3 19 lit", next);
            stand(there, kind + " 0 0 ;", item(there + 1));
        }
    }

    private static void stand(int there, String beginning, Map<String, String> may) {
        for (String token : TOKENS) {
            String text = beginning + (beginning.isEmpty() ? "" : " ") + token;
            if (!may.containsKey(token)) {
                told(there, text, -1 - (text.length() - token.length()));
            } else if (may.get(token) == null) {
                told(there, text, -1 - text.length());
            } else {
                text += may.get(token);
                told(there, text, text.split(";").length);
            }
        }
    }

    /** With so many there; a fault is no finding, and the tape is empty then. */
    private static void told(int there, String text, int due) {
        VarnishNight x = new VarnishNight();
        for (int i = 0; i < there; i++) {
            x.figure(3, 1, 5);
        }
        String where = "with " + there + ": '" + text + "'";
        Check.due(where, Check.night(x, text), due);
        Check.due(where + ": count(1)", x.count(1), 0);
        Check.due(where + ": status(-1)", x.status(-1), 0);
        if (due < 0) {
            Check.due(where + ": count(0)", x.count(0), there);
        }
    }

    /** "one there by then": those of earlier items, too, but not of later ones. */
    private static void numbersOfThoseThereByThen() {
        StringBuilder text = new StringBuilder();
        for (int i = 0; i < 8; i++) {
            told(0, text + "out " + i, -1 - (text.length() + 4));
            told(0, text + "head 0 0; out " + i, i + 2);
            told(0, text + "head 0 0; in " + i, i + 2);
            told(0, text + "head 0 0; wants " + i + " dark", i + 2);
            told(0, text + "head 0 0; wants 0 nearer " + i, i + 2);
            told(0, text + "head 0 0; out " + (i + 1), -1 - (text.length() + 14));
            told(0, text + "head 0 0; wants 0 nearer " + (i + 1), -1 - (text.length() + 25));
            text.append("head 0 0; ");
        }
    }

    /** "WORDS (letters a to z), NUMBERS (digits ..), SIGN ;": every byte behind a whole item, and first of all. */
    private static void everyByte() {
        for (int b = 0; b <= 255; b++) {
            boolean letter = b >= 'a' && b <= 'z';
            boolean digit = b >= '0' && b <= '9';
            int behind = -8;
            if (b == ' ') {
                behind = 1;
            } else if (b == ';') {
                behind = -9;
            } else if (digit) {
                behind = -7;
            }
            told(2, "tacky 1" + (char) b, behind);
            told(2, String.valueOf((char) b), b == ' ' ? -2 : -1);
            told(2, "tacky" + (char) b + "1", b == ' ' ? 1 : b == '0' ? 1 : letter ? -1 : -6);
        }
    }

    /** "blanks may stand between": any number of them, and none. */
    private static void blanksMayStandBetween() {
        for (int n = 0; n <= 20; n++) {
            String gap = " ".repeat(n);
            told(1, gap + "tacky" + gap + "1" + gap + ";" + gap + "wife" + gap + "3", -1 - (12 + 5 * n));
            told(1, gap + "tacky" + gap + "1" + gap, 1);
            told(1, gap + "tacky" + gap + "9" + gap, -1 - (5 + 2 * n));
            told(1, gap + "tacky" + gap + "?", -1 - (5 + 2 * n));
            told(1, gap, -1 - n);
        }
        told(1, " ".repeat(120), -121);
        told(1, " ".repeat(113) + "tacky 1", 1);
        told(1, "tacky" + " ".repeat(114) + "1", 1);
    }

    /** "TOKENS, each as long as can be". */
    private static void tokensAreAsLongAsCanBe() {
        told(1, "wife 1 1", 1);
        told(1, "wife1 1", 1);
        told(1, "wife 11", -6);
        told(1, "wife11", -5);
        told(1, "wife1 19lit", 1);
        told(1, "wife1 19nose9lit;out0;in1;tacky8", 4);
        told(1, "wife1 1nose 9 9", -15);
        told(1, "wife1 1noselit", -8);
        told(1, "wantslit", -1);
        told(1, "wants0lit", 1);
        told(1, "wants0nearer0", 1);
        told(1, "wants 0 litlit", -9);
        told(1, "in00", 1);
        told(1, "in0 0", -5);
        told(1, "in0;;in0", -5);
        told(1, "z".repeat(120), -1);
        told(1, "9".repeat(120), -1);
        told(1, "tacky " + "9".repeat(114), -7);
        told(1, ";".repeat(120), -1);
    }

    /** "999 at most" is of the number, which zeros ahead don't make greater. */
    private static void zerosAhead() {
        told(1, "tacky 08", 1);
        told(1, "tacky 008", 1);
        told(1, "tacky 0008", 1);
        told(1, "tacky " + "0".repeat(113) + "8", 1);
        told(1, "tacky " + "0".repeat(113) + "9", -7);
        told(1, "wife 03 019 nose 099", 1);
    }

    /** "or how many bytes there are if it ends too early": blanks at the end are bytes, too. */
    private static void endsTooEarly() {
        String[] early = {"", "wife", "wife 3", "wife 3 19 nose", "wife 3 19;", "wife 3 19 nose 99;", "wife 3 19 lit;",
            "wants", "wants 0", "wants 0 nearer", "wants 0 farther", "wants 0 farther 0;", "wants 0 shorter;",
            "wants 0 lit;", "wants 0 dark;", "out", "out 0;", "in", "in 0;", "tacky", "tacky 8;"};
        for (String text : early) {
            for (int blanks = 0; blanks <= 3; blanks++) {
                String alone = text + " ".repeat(blanks);
                told(1, alone, -1 - alone.length());
                String behind = "head 0 0; " + alone;
                told(1, behind, -1 - behind.length());
            }
        }
    }

    /** "the name of a KIND for a 9th: its own", before what stands behind it. */
    private static void theNinth() {
        for (String kind : KINDS) {
            told(8, kind + " 0 0", -1);
            told(8, kind, -1);
            told(8, kind + " 9 99", -1);
            told(8, kind + "?", -1);
            told(8, "  tacky 0; " + kind, -12);
            told(7, kind + " 0 0", 1);
            told(7, kind + " 0 0;" + kind + " 0 0", -1 - (kind.length() + 5));
            told(7, kind + " 0 0;" + kind + "s 0 0", -1 - (kind.length() + 5));
        }
        StringBuilder text = new StringBuilder("head 0 0");
        for (int there = 1; there < 8; there++) {
            text.append(";head 0 0");
        }
        told(0, text.toString(), 8);
        told(0, text + ";head 0 0", -1 - (text.length() + 1));
        told(1, text.toString(), -1 - (7 * 9));
    }

    /** "nothing changes but that THE TAPE is empty; no finding": whatever its items had brought before. */
    private static void faultEmptiesTheTapeAlone() {
        String[] items = {"head 2 2 nose 1 lit", "wants 0 farther 2", "wants 1 shorter", "out 0", "in 1", "tacky 8"};
        for (String item : items) {
            for (String fault : new String[] {"", "?", ";", "9", "lit lit", "wants 9 lit", "sitter 4 0", "tacky 9"}) {
                String text = item + "; " + fault;
                Consumer<VarnishNight> made = x -> {
                    Twin.rich(x);
                    x.wipe();
                };
                Twin.changed("'" + text + "'", -1 - faultIn(item.length() + 2, fault), made,
                        x -> Check.night(x, text), x -> Check.due("the tape is empty", x.wipe(), 0));
            }
        }
    }

    private static int faultIn(int begin, String fault) {
        switch (fault) {
            case "wants 9 lit":
                return begin + 6;
            case "sitter 4 0":
                return begin + 7;
            case "tacky 9":
                return begin + 6;
            default:
                return begin;
        }
    }

    /** Each item at its bounds is what figure(), set() and tacky() would have made of it. */
    private static void itemsComeToWhatThereIs() {
        for (int i = 0; i < KINDS.size(); i++) {
            int kind = i;
            comes(KINDS.get(kind) + " 3 0", x -> x.figure(kind, 3, 0));
        }
        comes("sitter 0 0 nose 0", x -> {
            x.figure(0, 0, 0);
            x.set(3, 3, 0);
        });
        comes("head 3 19 nose 99 lit", x -> {
            x.figure(5, 3, 19);
            x.set(3, 3, 99);
            x.set(3, 4, 1);
        });
        comes("wants 2 nearer 2", x -> {
            x.set(2, 5, 1);
            x.set(2, 6, 2);
        });
        comes("wants 0 farther 2", x -> {
            x.set(0, 5, 2);
            x.set(0, 6, 2);
        });
        comes("wants 0 shorter", x -> x.set(0, 5, 0));
        comes("wants 2 dark", x -> x.set(2, 5, 3));
        comes("wants 2 lit", x -> x.set(2, 5, 4));
        comes("out 0", x -> x.set(0, 7, 1));
        comes("out 1", x -> x.set(1, 7, 1));
        comes("in 1", x -> x.set(1, 7, 0));
        comes("in 2", x -> x.set(2, 7, 0));
        comes("tacky 0", x -> x.tacky(0));
        comes("tacky 8", x -> x.tacky(8));
    }

    private static void comes(String item, Consumer<VarnishNight> instead) {
        Consumer<VarnishNight> made = x -> {
            Twin.rich(x);
            x.wipe();
        };
        Twin.changed("'" + item + "'", 1, made, x -> Check.night(x, item), instead);
    }

    /** The most items that 120 bytes can hold, and one byte more or less of them. */
    private static void mostItems() {
        told(1, "in0;".repeat(29) + "in0", 30);
        told(1, "in0;".repeat(29) + "in0 ", 30);
        told(1, "in0;".repeat(30), -121);
        told(1, "in0;".repeat(29) + "in1", -1 - 118);
        told(1, "in0;".repeat(29) + "in", -1 - 118);
        told(1, "in0;".repeat(29) + "in00", 30);
        told(1, "in0;".repeat(29) + "in01", -1 - 118);
    }
}
