import java.util.List;
import java.util.function.Consumer;

/** The bounds that the document's terms name: findings, hours, figures, rubs, waits, seen, content, an hour. */
public final class TermsBoundsTest {
    private static final int SITTER = 0;
    private static final int MAYOR = 1;
    private static final int WIFE = 2;
    private static final int FISHER = 3;
    private static final int ALDERMAN = 4;
    private static final int HEAD = 5;

    public static void main(String[] args) {
        findingsAreNumbered();
        findingsInTheirOrder();
        quotientsAreCut();
        setsAreToldByBits();
        hourOfTheNight();
        tackyFromItsHourOn();
        rubsOfEachKind();
        othersInThePicture();
        nobodyWaitsButThese();
        mayorsWaitInTheLight();
        aldermenWaitInOddHours();
        wivesWaitAtNought();
        headsWaitForOthers();
        seenThreeColumnsAway();
        contentWithItsNose();
        contentWithItsPlace();
        contentWithItsLamp();
        anHourOfNoses();
        noseIsNoughtAtLeast();
        endsOneFromItAtTheNearest();
        withinNoughtToNineteen();
        anHourOfLamps();
        workOnlyIfAnythingChanged();
        workIsHeld();
        byNumbersAsItIsThen();
        aheadChangesNothing();
        Check.end();
    }

    private static VarnishNight with(int kind, int column) {
        VarnishNight x = new VarnishNight();
        x.figure(kind, 0, column);
        return x;
    }

    /** One who wants so of another one, who does nothing. */
    private static VarnishNight pair(int kind, int want, int mine, int its) {
        VarnishNight x = with(kind, mine);
        x.figure(FISHER, 0, its);
        x.set(1, 3, 0);
        x.set(0, 5, want);
        x.set(0, 6, 1);
        return x;
    }

    /** "FINDINGS are answers below -1000000000: -1000000001 BEYOND .. -1000000007 SIZE (in longs, too)." */
    private static void findingsAreNumbered() {
        VarnishNight x = with(SITTER, 0);
        Check.due("BEYOND", x.hangs(4), -1000000001);
        Check.due("FULL", full().figure(0, 0, 0), -1000000002);
        Check.due("KIND", x.as(0, 1), -1000000003);
        Check.due("NONE", x.undo(), -1000000004);
        Check.due("MISSING", x.lays(0), -1000000006);
        Check.due("SIZE", x.sheet(0, 8, -1), -1000000007);
        Check.due("BEYOND in longs", x.write(4, 0, 0), -1000000001L);
        Check.due("MISSING in longs", x.write(0, 0, 0), -1000000006L);
        for (int i = 0; i < 999; i++) {
            x.hours(100);
        }
        Check.due("STATE", x.hours(100), -1000000005);
    }

    private static VarnishNight full() {
        VarnishNight x = new VarnishNight();
        Twin.full(x);
        return x;
    }

    /** "Each act tells its findings in the order in which they are asked": where two hold, the first is told. */
    private static void findingsInTheirOrder() {
        Twin.refused("figure: BEYOND, then FULL", Check.BEYOND, Twin::full, x -> x.figure(0, 0, 20));
        Twin.refused("as: BEYOND, then KIND", Check.BEYOND, Twin::rich, x -> x.as(3, 5));
        Twin.refused("when: BEYOND, then NONE", Check.BEYOND, Twin::rich, x -> x.when(3));
        Twin.refused("porter: BEYOND, then NONE", Check.BEYOND, Twin::empty, x -> x.porter(41));
        Twin.refused("by: BEYOND, then NONE", Check.BEYOND, Twin::empty, x -> x.by(41, 8));
        Twin.refused("clash: BEYOND, then NONE", Check.BEYOND, Twin::empty, x -> x.clash(61));
        Twin.refused("feed: BEYOND, then FULL", Check.BEYOND, Twin::full, x -> x.feed(0, 5));
        Twin.refused("sheet: BEYOND, then SIZE", Check.BEYOND, Twin::rich, x -> x.sheet(4, 8, -1));
        Twin.refused("sheet: other bits, then SIZE", Check.BEYOND, Twin::rich, x -> x.sheet(0, 9, -1));
        Twin.refused("write: BEYOND, then MISSING", Check.BEYOND, Twin::empty, x -> x.write(4, 0, 0));
        Twin.refused("write: MISSING, then BEYOND", Check.MISSING, Twin::rich, x -> x.write(3, -1, 0));
        Twin.refused("copy: BEYOND, then MISSING", Check.BEYOND, Twin::rich, x -> x.copy(3, 0, 4, 0, 0));
        Twin.refused("copy: MISSING, then BEYOND", Check.MISSING, Twin::rich, x -> x.copy(0, -1, 3, 0, 0));
        Twin.refused("copy: KIND, then BEYOND", Check.KIND, Twin::rich, x -> x.copy(0, 0, 1, 0, -1));
        Twin.refused("book: MISSING, then BEYOND", Check.MISSING, Twin::rich, x -> x.book(3, 9));
        Twin.refused("read: MISSING, then BEYOND", Check.MISSING, Twin::rich, x -> x.read(3, 9));
    }

    /** "Quotients are cut": NOSE by 20. */
    private static void quotientsAreCut() {
        VarnishNight x = with(MAYOR, 0);
        int[][] by = {{0, 0}, {1, 0}, {19, 0}, {20, 1}, {21, 1}, {39, 1}, {40, 2}, {59, 2}, {60, 3}, {79, 3}, {80, 4}, {99, 4}};
        for (int[] b : by) {
            x.set(0, 3, b[0]);
            Check.due("a mayor's rag, nose " + b[0], x.of(0, 9), 4 + b[1]);
        }
    }

    private static void setsAreToldByBits() {
        VarnishNight x = new VarnishNight();
        for (int i = 0; i < 8; i++) {
            x.figure(SITTER, 3, i);
            Check.due("with " + (i + 1) + " there", x.hangs(3), (1 << i + 1) - 1);
        }
        for (int i = 0; i < 8; i++) {
            x.set(i, 7, 1);
            Check.due("out: " + i, x.now(6), 1 << i);
            x.set(i, 7, 0);
        }
    }

    /** "HOUR: 0 at first ..; of the night: its rest by 8." */
    private static void hourOfTheNight() {
        VarnishNight x = new VarnishNight();
        for (int hour = 0; hour <= 25; hour++) {
            Check.due("now(0)", x.now(0), hour);
            Check.due("now(1) at " + hour, x.now(1), hour - hour / 8 * 8);
            x.hours(1);
        }
    }

    /** "TACKY (0 to 8: the hour of the night from which on it is ..)": from 0 always, from 8 never. */
    private static void tackyFromItsHourOn() {
        VarnishNight x = with(SITTER, 0);
        x.set(0, 7, 1);
        for (int hour = 0; hour <= 9; hour++) {
            for (int v = 0; v <= 8; v++) {
                x.tacky(v);
                boolean tacky = hour % 8 >= v;
                Check.due("at " + hour + ", from " + v + " on: now(2)", x.now(2), tacky ? 1 : 0);
                Check.due("at " + hour + ", from " + v + " on: of(0, 9)", x.of(0, 9), tacky ? 2 : 4);
            }
            x.hours(1);
        }
    }

    /** RUBS, with t 0 and t 1, and noses at both ends of what a quotient holds. */
    private static void rubsOfEachKind() {
        int[] noses = {0, 19, 20, 99};
        int[][] soft = {{4, 4, 4, 4}, {4, 4, 5, 8}, {4, 4, 4, 4}, {0, 0, 0, 0}, {8, 8, 10, 16}, {4, 4, 4, 4}};
        int[][] tacky = {{2, 2, 2, 2}, {2, 2, 3, 6}, {2, 2, 2, 2}, {0, 0, 0, 0}, {2, 2, 3, 6}, {2, 2, 2, 2}};
        for (int kind = SITTER; kind <= HEAD; kind++) {
            VarnishNight x = with(kind, 0);
            for (int i = 0; i < noses.length; i++) {
                x.set(0, 3, noses[i]);
                x.tacky(8);
                Check.due("soft: kind " + kind + ", nose " + noses[i], x.of(0, 9), soft[kind][i]);
                x.tacky(0);
                Check.due("tacky: kind " + kind + ", nose " + noses[i], x.of(0, 9), tacky[kind][i]);
            }
        }
    }

    /** "o: how many others are IN its PICTURE": none to seven, whether they are out or not. */
    private static void othersInThePicture() {
        VarnishNight x = with(HEAD, 0);
        for (int others = 0; others <= 7; others++) {
            x.tacky(8);
            Check.due("soft, with " + others, x.of(0, 9), 4 + others);
            x.tacky(0);
            Check.due("tacky, with " + others, x.of(0, 9), 2 + others);
            x.figure(others % 6, 0, 19);
            x.set(Math.min(7, others + 1), 7, others % 2);
        }
        for (int i = 1; i < 8; i++) {
            x.set(i, 1, 1 + i % 3);
            Check.due("with " + (7 - i) + " again", x.of(0, 9), 2 + 7 - i);
        }
    }

    /** WAITS: a sitter never, a fisher ever; alone in the dark the others only at 0. */
    private static void nobodyWaitsButThese() {
        for (int kind = SITTER; kind <= HEAD; kind++) {
            VarnishNight x = with(kind, 0);
            x.set(0, 7, 1);
            for (int hour = 0; hour <= 16; hour++) {
                boolean waits = kind == FISHER || (kind == WIFE || kind == HEAD) && hour % 8 == 0;
                Check.due("kind " + kind + " at " + hour, x.of(0, 10), waits ? 1 : 0);
                x.hours(1);
            }
        }
    }

    private static void mayorsWaitInTheLight() {
        for (int mine = 0; mine <= 19; mine++) {
            for (int its = 0; its <= 19; its++) {
                VarnishNight x = pair(MAYOR, 0, mine, its);
                Check.due("another's lamp is out", x.of(0, 10), 0);
                x.set(1, 4, 1);
                Check.due(mine + " and a lamp at " + its, x.of(0, 10), Math.abs(mine - its) <= 3 ? 1 : 0);
                x.set(1, 1, 1);
                Check.due("a lamp in another picture", x.of(0, 10), 0);
            }
        }
        VarnishNight x = with(MAYOR, 5);
        x.set(0, 4, 1);
        Check.due("its own lamp", x.of(0, 10), 0);
    }

    /** "as MAYOR, but not in an even h": 0 is even, and so is the 8th hour. */
    private static void aldermenWaitInOddHours() {
        for (int apart = 0; apart <= 5; apart++) {
            VarnishNight x = pair(ALDERMAN, 0, 10, 10 + apart);
            x.set(1, 4, 1);
            x.set(0, 7, 1);
            for (int hour = 0; hour <= 17; hour++) {
                boolean waits = hour % 2 == 1 && apart <= 3;
                Check.due("a lamp " + apart + " away at " + hour, x.of(0, 10), waits ? 1 : 0);
                x.hours(1);
            }
        }
    }

    private static void wivesWaitAtNought() {
        VarnishNight x = pair(WIFE, 0, 0, 0);
        x.set(1, 4, 1);
        x.set(0, 7, 1);
        for (int hour = 0; hour <= 17; hour++) {
            Check.due("a wife at " + hour, x.of(0, 10), hour % 8 == 0 ? 1 : 0);
            x.hours(1);
        }
    }

    /** "as WIFE, or if any other one IN its PICTURE isn't CONTENT": the last of seven others is enough. */
    private static void headsWaitForOthers() {
        VarnishNight x = with(HEAD, 0);
        for (int i = 1; i < 8; i++) {
            x.figure(FISHER, 0, i);
            x.set(i, 3, 10);
        }
        x.set(0, 7, 1);
        x.hours(1);
        Check.due("all others are content", x.of(0, 10), 0);
        for (int i = 1; i < 8; i++) {
            x.set(i, 3, 11);
            Check.due(i + " isn't", x.of(0, 10), 1);
            x.set(i, 1, 3);
            Check.due(i + " is in another picture", x.of(0, 10), 0);
            x.set(i, 1, 0);
            x.set(i, 3, 10);
        }
        x.hours(6);
        Check.due("at 7", x.of(0, 10), 0);
        x.hours(1);
        Check.due("at 8", x.of(0, 10), 1);
    }

    private static void seenThreeColumnsAway() {
        for (int mine = 0; mine <= 19; mine++) {
            for (int its = 0; its <= 19; its++) {
                VarnishNight x = pair(SITTER, 0, mine, its);
                x.set(1, 4, 1);
                Check.due(mine + " by a lamp at " + its, x.seen(0), Math.abs(mine - its) <= 3 ? 2 : 0);
                Check.due("its own, at " + its, x.seen(1), 2);
                x.set(0, 4, 1);
                Check.due("both lit, " + mine + " and " + its, x.seen(0), Math.abs(mine - its) <= 3 ? 3 : 1);
            }
        }
    }

    /** "WANT 0: NOSE is 10 or less." */
    private static void contentWithItsNose() {
        VarnishNight x = with(SITTER, 0);
        for (int nose = 0; nose <= 99; nose++) {
            x.set(0, 3, nose);
            Check.due("nose " + nose, x.of(0, 11), nose <= 10 ? 1 : 0);
        }
    }

    /** "or no more than 1 COLUMN away", "or 10 COLUMNS away or more", "nobody, or itself, or IN another PICTURE". */
    private static void contentWithItsPlace() {
        for (int mine = 0; mine <= 19; mine++) {
            for (int its = 0; its <= 19; its++) {
                int apart = Math.abs(mine - its);
                VarnishNight x = pair(SITTER, 1, mine, its);
                Check.due(mine + " near to " + its, x.of(0, 11), apart <= 1 ? 1 : 0);
                x.set(0, 5, 2);
                Check.due(mine + " far from " + its, x.of(0, 11), apart >= 10 ? 1 : 0);
                for (int want = 1; want <= 2; want++) {
                    x.set(0, 5, want);
                    x.set(0, 6, -1);
                    Check.due("of nobody, want " + want, x.of(0, 11), 1);
                    x.set(0, 6, 0);
                    Check.due("of itself, want " + want, x.of(0, 11), 1);
                    x.set(0, 6, 1);
                    x.set(1, 1, want);
                    Check.due("of one in another picture, want " + want, x.of(0, 11), 1);
                    x.set(1, 1, 0);
                }
            }
        }
    }

    private static void contentWithItsLamp() {
        for (int lamp = 0; lamp <= 1; lamp++) {
            VarnishNight x = with(SITTER, 0);
            x.set(0, 4, lamp);
            x.set(0, 5, 3);
            Check.due("lamp " + lamp + ", want 3", x.of(0, 11), 1 - lamp);
            x.set(0, 5, 4);
            Check.due("lamp " + lamp + ", want 4", x.of(0, 11), lamp);
        }
    }

    /** Every kind and every nose, alone in the dark at 1: what its rag does, if it isn't content and rubs. */
    private static void anHourOfNoses() {
        for (int kind = SITTER; kind <= HEAD; kind++) {
            for (int v = 2; v <= 8; v += 6) {
                for (int nose = 0; nose <= 99; nose++) {
                    VarnishNight x = with(kind, 0);
                    x.tacky(v == 2 ? 0 : 8);
                    x.set(0, 7, 1);
                    x.hours(1);
                    x.set(0, 7, 0);
                    x.set(0, 3, nose);
                    int left = nose <= 10 ? nose : nose - x.of(0, 9);
                    x.hours(1);
                    Check.due("kind " + kind + ", nose " + nose, x.of(0, 3), left);
                    Check.due("kind " + kind + ", nose " + nose + ": work", x.of(0, 8), left == nose ? 0 : 1);
                }
            }
        }
    }

    /** "NOSE is so much less (0 at least)": the most that a rag does to a nose of 11 is 11. */
    private static void noseIsNoughtAtLeast() {
        for (int nose : new int[] {10, 11, 12, 13}) {
            VarnishNight x = with(HEAD, 0);
            for (int i = 1; i < 8; i++) {
                x.figure(FISHER, 0, i);
                x.set(i, 3, 0);
            }
            x.hours(1);
            x.set(0, 3, nose);
            Check.due("a head's rag among seven", x.of(0, 9), 11);
            x.hours(1);
            Check.due("a nose of " + nose, x.of(0, 3), nose == 10 ? 10 : nose - 11);
            x.hours(100);
            Check.due("and no less", x.of(0, 3), nose == 10 ? 10 : nose - 11);
        }
    }

    /** Rags of 2, 4, 6, 8 and 16 in the hour at 0. */
    private static final int[][] RAGS = {
        {SITTER, 0, 0, 2}, {SITTER, 0, 8, 4}, {MAYOR, 99, 0, 6}, {ALDERMAN, 0, 8, 8}, {ALDERMAN, 99, 8, 16}};

    /** "its COLUMN is so much nearer to that of WHOM, but ends 1 from it at the nearest." */
    private static void endsOneFromItAtTheNearest() {
        for (int[] rag : RAGS) {
            for (int mine = 0; mine <= 19; mine++) {
                for (int its = 0; its <= 19; its++) {
                    int due = mine;
                    for (int i = 0; i < rag[3] && Math.abs(due - its) > 1; i++) {
                        due += due < its ? 1 : -1;
                    }
                    goes(rag, 1, mine, its, due);
                }
            }
        }
    }

    /** "so much farther (in WHOM's COLUMN, or left of it: to the left; else to the right), but within 0 to 19." */
    private static void withinNoughtToNineteen() {
        for (int[] rag : RAGS) {
            for (int mine = 0; mine <= 19; mine++) {
                for (int its = 0; its <= 19; its++) {
                    int due = mine;
                    for (int i = 0; i < rag[3] && Math.abs(mine - its) < 10; i++) {
                        due += mine <= its && due > 0 ? -1 : mine > its && due < 19 ? 1 : 0;
                    }
                    goes(rag, 2, mine, its, due);
                }
            }
        }
    }

    private static void goes(int[] rag, int want, int mine, int its, int due) {
        VarnishNight x = pair(rag[0], want, mine, its);
        x.set(0, 3, rag[1]);
        x.tacky(rag[2]);
        String call = "want " + want + ", " + mine + " of " + its + " by " + rag[3];
        Check.due(call + ": on(0, 1, 0)", x.on(0, 1, 0), due);
        Check.due("its rag", x.of(0, 9), rag[3]);
        x.hours(1);
        Check.due(call, x.of(0, 2), due);
        Check.due(call + ": work", x.of(0, 8), due == mine ? 0 : 1);
        Check.due(call + ": the other one", x.of(1, 2), its);
        Check.due(call + ": the nose", x.of(0, 3), rag[1]);
    }

    /** "3: the LAMP is out. 4: it is lit." In one hour, and then never again. */
    private static void anHourOfLamps() {
        for (int want = 3; want <= 4; want++) {
            for (int lamp = 0; lamp <= 1; lamp++) {
                VarnishNight x = with(SITTER, 0);
                x.set(0, 5, want);
                x.set(0, 4, lamp);
                x.hours(1);
                Check.due("want " + want + ", lamp " + lamp, x.of(0, 4), want - 3);
                Check.due("want " + want + ", lamp " + lamp + ": work", x.of(0, 8), lamp == want - 3 ? 0 : 1);
                x.hours(100);
                Check.due("want " + want + ": no more work", x.of(0, 8), lamp == want - 3 ? 0 : 1);
            }
        }
    }

    /** "If anything changed by that: WORK is 1 more. HOUR is 1 more." In a corner nothing does, but the hour goes. */
    private static void workOnlyIfAnythingChanged() {
        int[][] corners = {{0, 0}, {0, 9}, {19, 18}, {19, 10}};
        for (int[] c : corners) {
            VarnishNight x = pair(SITTER, 2, c[0], c[1]);
            Check.due("cornered: hours(100)", x.hours(100), 2);
            Check.due("cornered: its column", x.of(0, 2), c[0]);
            Check.due("cornered: its work", x.of(0, 8), 0);
            Check.due("cornered: the hour", x.now(0), 100);
        }
    }

    /** "WORK (how often it changed anything: 0 at first, held to 9999)". */
    private static void workIsHeld() {
        int[][] work = {{0, 1, 2}, {9997, 9998, 9999}, {9998, 9999, 9999}, {9999, 9999, 9999}};
        for (int[] w : work) {
            VarnishNight x = with(SITTER, 0);
            x.set(0, 8, w[0]);
            Check.due("on(0, 1, 3) from " + w[0], x.on(0, 1, 3), w[1]);
            Check.due("on(0, 2, 3) from " + w[0], x.on(0, 2, 3), w[2]);
            x.hours(1);
            Check.due("work from " + w[0], x.of(0, 8), w[1]);
            x.hours(1);
            Check.due("work from " + w[0] + " again", x.of(0, 8), w[2]);
            Check.due("work of all", x.now(7), w[2]);
            Check.due("the nose goes on", x.of(0, 3), 42);
        }
    }

    /** "FIGURES by numbers .., by all as it is then": the lesser one's change is seen by the greater, not the other way. */
    private static void byNumbersAsItIsThen() {
        for (int first = 0; first <= 1; first++) {
            VarnishNight x = new VarnishNight();
            x.figure(first == 0 ? SITTER : MAYOR, 0, 0);
            x.figure(first == 0 ? MAYOR : SITTER, 0, 0);
            x.set(first, 4, 1);
            x.set(first, 5, 3);
            x.hours(1);
            Check.due("the lamp of " + first + " is out: the mayor's nose", x.of(1 - first, 3), first == 0 ? 44 : 50);
            x = new VarnishNight();
            x.figure(first == 0 ? SITTER : HEAD, 0, 0);
            x.figure(first == 0 ? HEAD : SITTER, 0, 0);
            x.set(first, 7, 1);
            x.hours(1);
            x.set(first, 7, 0);
            x.set(first, 3, 14);
            x.hours(1);
            Check.due(first + " is content: the head's nose", x.of(1 - first, 3), first == 0 ? 45 : 50);
        }
    }

    /** "AHEAD: n HOURS go on with all as it is; nothing changes." Whatever is asked, at its greatest n. */
    private static void aheadChangesNothing() {
        for (Consumer<VarnishNight> made : List.<Consumer<VarnishNight>>of(Twin::rich, Twin::full)) {
            VarnishNight one = new VarnishNight();
            VarnishNight other = new VarnishNight();
            made.accept(one);
            made.accept(other);
            askAhead(one);
            Check.same("after all that is asked ahead", Twin.everything(one), Twin.everything(other));
        }
    }

    private static void askAhead(VarnishNight x) {
        int figures = x.count(0);
        for (int figure = 0; figure < figures; figure++) {
            for (int what = 0; what <= 3; what++) {
                x.on(figure, 200, what);
            }
            x.when(figure);
            x.kind(figure, 60);
            x.place(figure, 40);
            x.want(figure, 40);
            x.nose(figure, 40);
            x.read(1, figure);
        }
        x.all();
        x.many(200);
        x.porter(40);
        x.by(40, 2);
        x.clash(60);
    }
}
