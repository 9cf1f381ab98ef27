/**
 * The night before varnishing day: pictures, the figures in them, and what each of them
 * changes of itself with a rag, hour by hour. The document (shared/DOC.md) numbers what each
 * call promises; README.md says how to use and test the class.
 *
 * <p>Everything a call needs is made by the constructor and used again, so that no call makes
 * an object.
 */
public final class VarnishNight {
    private static final int BEYOND = -1000000001;
    private static final int FULL = -1000000002;
    private static final int OTHER_KIND = -1000000003;
    private static final int NONE = -1000000004;
    private static final int STATE = -1000000005;
    private static final int MISSING = -1000000006;
    private static final int SIZE = -1000000007;
    private static final int FINDINGS = 7;

    private static final int NIGHT_HOURS = 8;
    private static final int FIRST_TACKY = 4;
    private static final int LAST_HOUR = 99999;
    private static final int LAST_PICTURE = 3;
    private static final int LAST_COLUMN = 19;
    private static final int MOST_FIGURES = 8;

    private static final int SITTER = 0;
    private static final int MAYOR = 1;
    private static final int WIFE = 2;
    private static final int FISHER = 3;
    private static final int ALDERMAN = 4;
    private static final int HEAD = 5;
    private static final int LAST_KIND = 5;

    /** What a figure has, numbered as of() and set() number it. */
    private static final int KIND = 0;
    private static final int PICTURE = 1;
    private static final int COLUMN = 2;
    private static final int NOSE = 3;
    private static final int LAMP = 4;
    private static final int WANT = 5;
    private static final int WHOM = 6;
    private static final int OUT = 7;
    private static final int WORK = 8;
    private static final int CELLS = 9;

    private static final int SHORTER = 0;
    private static final int NEARER = 1;
    private static final int FARTHER = 2;
    private static final int DARK = 3;
    private static final int LIT = 4;
    private static final int LAST_WANT = 4;

    private static final int NOBODY = -1;
    private static final int FIRST_NOSE = 50;
    private static final int MOST_NOSE = 99;
    private static final int SHORT_NOSE = 10;
    private static final int MOST_WORK = 9999;
    private static final int NEAR = 1;
    private static final int FAR = 10;
    private static final int LAMP_REACH = 3;

    private static final int MOST_BYTES = 120;
    private static final int BYTES_AT_ONCE = 4;
    private static final int SHEETS = 4;
    private static final int MOST_NUMBERS = 40;

    private static final int MOST_HOURS_AT_ONCE = 100;
    private static final int FAR_AHEAD = 200;
    private static final int BEST_AHEAD = 40;
    private static final int WORK_AHEAD = 60;

    private final Gallery gallery;
    /** Where hours go on that are only thought of, and texts that may yet have a fault. */
    private final Gallery trial;
    private final Gallery kept;
    private boolean isKept;
    private final Teller teller;
    private final Sheet[] sheets;
    private final int[] findings;
    /** For clash(): with whom each figure was ever content in the same hour. */
    private final int[] contentWith;

    public VarnishNight() {
        gallery = new Gallery();
        trial = new Gallery();
        kept = new Gallery();
        isKept = false;
        teller = new Teller();
        sheets = new Sheet[SHEETS];
        for (int s = 0; s < SHEETS; s++) {
            sheets[s] = new Sheet();
        }
        findings = new int[FINDINGS];
        contentWith = new int[MOST_FIGURES];
    }

    // ---- the night

    public int tacky(int v) {
        if (isOutside(v, 0, NIGHT_HOURS)) {
            return finding(BEYOND);
        }
        int was = gallery.tackyFrom;
        gallery.tackyFrom = v;
        return was;
    }

    public int now(int what) {
        switch (what) {
            case 0:
                return gallery.hour;
            case 1:
                return gallery.hourOfNight();
            case 2:
                return gallery.isTacky() ? 1 : 0;
            case 3:
                return gallery.whoIsContent();
            case 4:
                return gallery.whoIsWaiting();
            case 5:
                return gallery.whoIsSeen();
            case 6:
                return gallery.whoHas(OUT, 1);
            case 7:
                return gallery.sum(WORK);
            default:
                return finding(BEYOND);
        }
    }

    public int hangs(int picture) {
        if (isOutside(picture, 0, LAST_PICTURE)) {
            return finding(BEYOND);
        }
        return gallery.whoHas(PICTURE, picture);
    }

    // ---- figures

    public int figure(int kind, int picture, int column) {
        if (isOutside(kind, 0, LAST_KIND)
                || isOutside(picture, 0, LAST_PICTURE)
                || isOutside(column, 0, LAST_COLUMN)) {
            return finding(BEYOND);
        }
        if (gallery.isFull()) {
            return finding(FULL);
        }
        return gallery.hang(kind, picture, column);
    }

    public int of(int figure, int what) {
        if (gallery.lacks(figure)) {
            return finding(BEYOND);
        }
        switch (what) {
            case 9:
                return gallery.rubs(figure);
            case 10:
                return gallery.isWaiting(figure) ? 1 : 0;
            case 11:
                return gallery.isContent(figure) ? 1 : 0;
            default:
                return isOutside(what, KIND, WORK) ? finding(BEYOND) : gallery.get(figure, what);
        }
    }

    public int set(int figure, int what, int v) {
        if (gallery.lacks(figure)
                || isOutside(what, PICTURE, WORK)
                || isOutside(v, least(what), greatest(what))) {
            return finding(BEYOND);
        }
        int was = gallery.get(figure, what);
        gallery.put(figure, what, v);
        return was;
    }

    public int seen(int figure) {
        if (gallery.lacks(figure)) {
            return finding(BEYOND);
        }
        return gallery.lampsOn(figure);
    }

    public int turn(int figure, int kind) {
        if (gallery.lacks(figure) || isOutside(kind, 0, LAST_KIND)) {
            return finding(BEYOND);
        }
        int was = gallery.get(figure, KIND);
        gallery.put(figure, KIND, kind);
        return was;
    }

    public int as(int figure, int kind) {
        if (gallery.lacks(figure) || isOutside(kind, 0, LAST_KIND)) {
            return finding(BEYOND);
        }
        if (!isUnder(gallery.get(figure, KIND), kind)) {
            return finding(OTHER_KIND);
        }
        return gallery.get(figure, NOSE);
    }

    // ---- hours

    public int hours(int n) {
        if (isOutside(n, 1, MOST_HOURS_AT_ONCE)) {
            return finding(BEYOND);
        }
        if (gallery.hour > LAST_HOUR - n) {
            return finding(STATE);
        }
        gallery.pass(n);
        return gallery.whoIsContent();
    }

    public int on(int figure, int n, int what) {
        if (gallery.lacks(figure) || isOutside(n, 0, FAR_AHEAD) || isOutside(what, 0, 3)) {
            return finding(BEYOND);
        }
        trial.become(gallery);
        trial.pass(n);
        switch (what) {
            case 0:
                return trial.get(figure, COLUMN);
            case 1:
                return trial.get(figure, NOSE);
            case 2:
                return trial.get(figure, LAMP);
            default:
                return trial.get(figure, WORK);
        }
    }

    public int when(int figure) {
        if (gallery.lacks(figure)) {
            return finding(BEYOND);
        }
        return firstContent(1 << figure);
    }

    public int all() {
        return firstContent(gallery.everybody());
    }

    public int many(int n) {
        if (isOutside(n, 0, FAR_AHEAD)) {
            return finding(BEYOND);
        }
        trial.become(gallery);
        trial.pass(n);
        return trial.howManyContent();
    }

    // ---- what is best

    public int porter(int n) {
        if (isOutside(n, 1, BEST_AHEAD)) {
            return finding(BEYOND);
        }
        int best = NOBODY;
        int most = -1;
        for (int figure = 0; figure < gallery.figures; figure++) {
            if (gallery.get(figure, OUT) == 0) {
                suppose(figure, OUT, 1);
                trial.pass(n);
                int content = trial.howManyContent();
                if (content > most) {
                    most = content;
                    best = figure;
                }
            }
        }
        return best == NOBODY ? finding(NONE) : best;
    }

    public int by(int n, int v) {
        if (isOutside(n, 1, BEST_AHEAD) || isOutside(v, 0, MOST_FIGURES)) {
            return finding(BEYOND);
        }
        for (int from = 0; from <= NIGHT_HOURS; from++) {
            trial.become(gallery);
            trial.tackyFrom = from;
            trial.pass(n);
            if (trial.howManyContent() >= v) {
                return from;
            }
        }
        return finding(NONE);
    }

    public int kind(int figure, int n) {
        if (gallery.lacks(figure) || isOutside(n, 1, WORK_AHEAD)) {
            return finding(BEYOND);
        }
        int best = 0;
        int most = -1;
        for (int kind = 0; kind <= LAST_KIND; kind++) {
            suppose(figure, KIND, kind);
            trial.pass(n);
            int work = trial.get(figure, WORK);
            if (work > most) {
                most = work;
                best = kind;
            }
        }
        return best;
    }

    public int place(int figure, int n) {
        if (gallery.lacks(figure) || isOutside(n, 1, BEST_AHEAD)) {
            return finding(BEYOND);
        }
        return mostContentWith(figure, COLUMN, LAST_COLUMN, n);
    }

    public int clash(int n) {
        if (isOutside(n, 1, WORK_AHEAD)) {
            return finding(BEYOND);
        }
        gatherContentWith(n);
        for (int a = 0; a < gallery.figures; a++) {
            for (int b = a + 1; b < gallery.figures; b++) {
                if (wantsClash(a, b)) {
                    return 10 * a + b;
                }
            }
        }
        return finding(NONE);
    }

    public int want(int figure, int n) {
        if (gallery.lacks(figure) || isOutside(n, 1, BEST_AHEAD)) {
            return finding(BEYOND);
        }
        return mostContentWith(figure, WANT, LAST_WANT, n);
    }

    public int nose(int figure, int n) {
        if (gallery.lacks(figure) || isOutside(n, 0, BEST_AHEAD)) {
            return finding(BEYOND);
        }
        // Every one is tried: a longer nose may be rubbed faster, so a shorter one proves nothing.
        for (int nose = MOST_NOSE; nose >= 0; nose--) {
            suppose(figure, NOSE, nose);
            trial.pass(n);
            if (trial.get(figure, NOSE) <= SHORT_NOSE) {
                return nose;
            }
        }
        return finding(NONE);
    }

    // ---- the text

    public int feed(int bytes, int n) {
        if (isOutside(n, 1, BYTES_AT_ONCE)) {
            return finding(BEYOND);
        }
        if (teller.length > MOST_BYTES - n) {
            return finding(FULL);
        }
        for (int left = n - 1; left >= 0; left--) {
            teller.take((bytes >>> (8 * left)) & 255);
        }
        return teller.length;
    }

    public int wipe() {
        int had = teller.length;
        teller.length = 0;
        return had;
    }

    public int night() {
        trial.become(gallery);
        int items = teller.tell(trial);
        teller.length = 0;
        if (items >= 0) {
            gallery.become(trial);
        }
        return items;
    }

    // ---- sheets

    public int sheet(int s, int bits, int n) {
        Sheet sheet = sheetAt(s);
        if (sheet == null || (bits != 0 && bits != 8 && bits != 16 && bits != 64)) {
            return finding(BEYOND);
        }
        if (n < 0) {
            return finding(SIZE);
        }
        if (n > MOST_NUMBERS) {
            return finding(BEYOND);
        }
        sheet.lay(bits, n);
        return sheet.length;
    }

    public long write(int s, int i, long v) {
        Sheet sheet = sheetAt(s);
        if (sheet == null) {
            return finding(BEYOND);
        }
        if (sheet.isMissing()) {
            return finding(MISSING);
        }
        if (isOutside(i, 0, sheet.length - 1)) {
            return finding(BEYOND);
        }
        long was = sheet.get(i);
        sheet.put(i, v);
        return was;
    }

    public int copy(int s, int from, int t, int to, int n) {
        Sheet source = sheetAt(s);
        Sheet target = sheetAt(t);
        if (source == null || target == null) {
            return finding(BEYOND);
        }
        if (source.isMissing() || target.isMissing()) {
            return finding(MISSING);
        }
        if (source.bits != target.bits) {
            return finding(OTHER_KIND);
        }
        if (source.lacks(from, n) || target.lacks(to, n)) {
            return finding(BEYOND);
        }
        System.arraycopy(source.numbers, from, target.numbers, to, n);
        return n;
    }

    public int lays(int s) {
        Sheet sheet = sheetAt(s);
        if (sheet == null) {
            return finding(BEYOND);
        }
        if (sheet.isMissing()) {
            return finding(MISSING);
        }
        int came = 0;
        for (int i = 0; i < sheet.length && i < gallery.figures; i++) {
            long nose = sheet.get(i);
            if (nose >= 0 && nose <= MOST_NOSE) {
                gallery.put(i, NOSE, (int) nose);
                came++;
            }
        }
        return came;
    }

    public int book(int s, int figure) {
        Sheet sheet = sheetAt(s);
        if (sheet == null) {
            return finding(BEYOND);
        }
        if (sheet.isMissing()) {
            return finding(MISSING);
        }
        if (gallery.lacks(figure)) {
            return finding(BEYOND);
        }
        trial.become(gallery);
        for (int i = 0; i < sheet.length; i++) {
            sheet.put(i, trial.look(figure));
            trial.pass(1);
        }
        return sheet.length;
    }

    public int read(int s, int figure) {
        Sheet sheet = sheetAt(s);
        if (sheet == null) {
            return finding(BEYOND);
        }
        if (sheet.isMissing()) {
            return finding(MISSING);
        }
        if (gallery.lacks(figure)) {
            return finding(BEYOND);
        }
        int pairs = 0;
        for (int kind = 0; kind <= LAST_KIND; kind++) {
            for (int want = 0; want <= LAST_WANT; want++) {
                suppose(figure, KIND, kind);
                trial.put(figure, WANT, want);
                if (trialGoesAs(sheet, figure)) {
                    pairs++;
                }
            }
        }
        return pairs;
    }

    // ---- images

    public int image() {
        kept.become(gallery);
        isKept = true;
        return 1;
    }

    public int undo() {
        if (!isKept) {
            return finding(NONE);
        }
        gallery.become(kept);
        return gallery.figures;
    }

    public int tear() {
        int was = isKept ? 1 : 0;
        isKept = false;
        return was;
    }

    public int count(int what) {
        switch (what) {
            case 0:
                return gallery.figures;
            case 1:
                return teller.length;
            case 2:
                return gallery.sum(LAMP);
            case 3:
                return gallery.sum(NOSE);
            default:
                return finding(BEYOND);
        }
    }

    public int status(int which) {
        if (isOutside(which, -1, FINDINGS - 1)) {
            return finding(BEYOND);
        }
        if (which >= 0) {
            return findings[which];
        }
        int sum = 0;
        for (int i = 0; i < FINDINGS; i++) {
            sum += findings[i];
        }
        return sum;
    }

    // ---- what the calls share

    private int finding(int code) {
        int which = BEYOND - code;
        if (which >= 0 && which < FINDINGS) {
            findings[which]++;
        }
        return code;
    }

    private static boolean isOutside(int v, int low, int high) {
        return v < low || v > high;
    }

    private static int least(int what) {
        return what == WHOM ? NOBODY : 0;
    }

    private int greatest(int what) {
        switch (what) {
            case PICTURE:
                return LAST_PICTURE;
            case COLUMN:
                return LAST_COLUMN;
            case NOSE:
                return MOST_NOSE;
            case WANT:
                return LAST_WANT;
            case WHOM:
                return gallery.figures - 1;
            case WORK:
                return MOST_WORK;
            default:
                return 1;
        }
    }

    private static int kindAbove(int kind) {
        switch (kind) {
            case ALDERMAN:
                return MAYOR;
            case HEAD:
                return WIFE;
            default:
                return SITTER;
        }
    }

    private static boolean isUnder(int kind, int above) {
        return kind == above || kindAbove(kind) == above || above == SITTER;
    }

    private Sheet sheetAt(int s) {
        return isOutside(s, 0, SHEETS - 1) ? null : sheets[s];
    }

    private int firstContent(int who) {
        trial.become(gallery);
        for (int ahead = 0; ahead <= FAR_AHEAD; ahead++) {
            if ((trial.whoIsContent() & who) == who) {
                return ahead;
            }
            trial.pass(1);
        }
        return finding(NONE);
    }

    /** The trial becomes all as it is, but for one thing of one figure. */
    private void suppose(int figure, int what, int v) {
        trial.become(gallery);
        trial.put(figure, what, v);
    }

    private int mostContentWith(int figure, int what, int last, int n) {
        int best = 0;
        int most = -1;
        for (int v = 0; v <= last; v++) {
            suppose(figure, what, v);
            trial.pass(n);
            int content = trial.howManyContent();
            if (content > most) {
                most = content;
                best = v;
            }
        }
        return best;
    }

    private void gatherContentWith(int n) {
        for (int figure = 0; figure < MOST_FIGURES; figure++) {
            contentWith[figure] = 0;
        }
        trial.become(gallery);
        for (int ahead = 0; ahead <= n; ahead++) {
            int content = trial.whoIsContent();
            for (int figure = 0; figure < MOST_FIGURES; figure++) {
                if ((content >> figure & 1) == 1) {
                    contentWith[figure] |= content;
                }
            }
            trial.pass(1);
        }
    }

    private boolean wantsClash(int a, int b) {
        if (isOutside(a, 0, MOST_FIGURES - 1) || isOutside(b, 0, MOST_FIGURES - 1)) {
            return false;
        }
        // One that was ever content was so with itself.
        return contentWith[a] != 0 && contentWith[b] != 0 && (contentWith[a] >> b & 1) == 0;
    }

    private boolean trialGoesAs(Sheet sheet, int figure) {
        for (int i = 0; i < sheet.length; i++) {
            if (sheet.get(i) != trial.look(figure)) {
                return false;
            }
            trial.pass(1);
        }
        return true;
    }

    /** All that section 1 of the document tells, but for the tape. */
    private static final class Gallery {
        int hour;
        int tackyFrom;
        int figures;
        private final int[] cells;

        Gallery() {
            hour = 0;
            tackyFrom = FIRST_TACKY;
            figures = 0;
            cells = new int[MOST_FIGURES * CELLS];
        }

        void become(Gallery other) {
            if (other == null) {
                return;
            }
            hour = other.hour;
            tackyFrom = other.tackyFrom;
            figures = other.figures;
            System.arraycopy(other.cells, 0, cells, 0, MOST_FIGURES * CELLS);
        }

        int get(int figure, int what) {
            int at = figure * CELLS + what;
            return at >= 0 && at < MOST_FIGURES * CELLS ? cells[at] : 0;
        }

        void put(int figure, int what, int v) {
            int at = figure * CELLS + what;
            if (at >= 0 && at < MOST_FIGURES * CELLS) {
                cells[at] = v;
            }
        }

        boolean lacks(int figure) {
            return figure < 0 || figure >= figures;
        }

        boolean isFull() {
            return figures >= MOST_FIGURES;
        }

        /** The caller has asked isFull(). */
        int hang(int kind, int picture, int column) {
            int figure = figures;
            put(figure, KIND, kind);
            put(figure, PICTURE, picture);
            put(figure, COLUMN, column);
            put(figure, NOSE, FIRST_NOSE);
            put(figure, LAMP, 0);
            put(figure, WANT, SHORTER);
            put(figure, WHOM, NOBODY);
            put(figure, OUT, 0);
            put(figure, WORK, 0);
            figures = figure + 1;
            return figure;
        }

        int hourOfNight() {
            return hour % NIGHT_HOURS;
        }

        boolean isTacky() {
            return hourOfNight() >= tackyFrom;
        }

        int everybody() {
            return (1 << figures) - 1;
        }

        int sum(int what) {
            int sum = 0;
            for (int i = 0; i < figures; i++) {
                sum += get(i, what);
            }
            return sum;
        }

        int whoHas(int what, int v) {
            int who = 0;
            for (int i = 0; i < figures; i++) {
                if (get(i, what) == v) {
                    who |= 1 << i;
                }
            }
            return who;
        }

        int whoIsContent() {
            int who = 0;
            for (int i = 0; i < figures; i++) {
                if (isContent(i)) {
                    who |= 1 << i;
                }
            }
            return who;
        }

        int whoIsWaiting() {
            int who = 0;
            for (int i = 0; i < figures; i++) {
                if (isWaiting(i)) {
                    who |= 1 << i;
                }
            }
            return who;
        }

        int whoIsSeen() {
            int who = 0;
            for (int i = 0; i < figures; i++) {
                if (lampsOn(i) != 0) {
                    who |= 1 << i;
                }
            }
            return who;
        }

        int howManyContent() {
            return Integer.bitCount(whoIsContent());
        }

        /** What a book writes of a figure. */
        int look(int figure) {
            return 100 * get(figure, COLUMN) + get(figure, NOSE);
        }

        int lampsOn(int figure) {
            int picture = get(figure, PICTURE);
            int column = get(figure, COLUMN);
            int lamps = 0;
            for (int i = 0; i < figures; i++) {
                if (get(i, LAMP) == 1
                        && get(i, PICTURE) == picture
                        && Math.abs(get(i, COLUMN) - column) <= LAMP_REACH) {
                    lamps |= 1 << i;
                }
            }
            return lamps;
        }

        private boolean isSeenByAnother(int figure) {
            return (lampsOn(figure) & ~(1 << figure)) != 0;
        }

        boolean isContent(int figure) {
            int whom = get(figure, WHOM);
            boolean isAlone = lacks(whom)
                    || whom == figure
                    || get(whom, PICTURE) != get(figure, PICTURE);
            int apart = Math.abs(get(whom, COLUMN) - get(figure, COLUMN));
            switch (get(figure, WANT)) {
                case SHORTER:
                    return get(figure, NOSE) <= SHORT_NOSE;
                case NEARER:
                    return isAlone || apart <= NEAR;
                case FARTHER:
                    return isAlone || apart >= FAR;
                case DARK:
                    return get(figure, LAMP) == 0;
                default:
                    return get(figure, LAMP) == 1;
            }
        }

        int rubs(int figure) {
            int asSitter = isTacky() ? 2 : 4;
            int asMayor = asSitter + get(figure, NOSE) / 20;
            switch (get(figure, KIND)) {
                case MAYOR:
                    return asMayor;
                case FISHER:
                    return 0;
                case ALDERMAN:
                    return isTacky() ? asMayor : 2 * asMayor;
                case HEAD:
                    return asSitter + Integer.bitCount(whoHas(PICTURE, get(figure, PICTURE))) - 1;
                default:
                    return asSitter;
            }
        }

        boolean isWaiting(int figure) {
            switch (get(figure, KIND)) {
                case MAYOR:
                    return isSeenByAnother(figure);
                case WIFE:
                    return hourOfNight() == 0;
                case FISHER:
                    return true;
                case ALDERMAN:
                    return hourOfNight() % 2 != 0 && isSeenByAnother(figure);
                case HEAD:
                    return hourOfNight() == 0 || isAnotherDiscontent(figure);
                default:
                    return false;
            }
        }

        private boolean isAnotherDiscontent(int figure) {
            int picture = get(figure, PICTURE);
            for (int i = 0; i < figures; i++) {
                if (i != figure && get(i, PICTURE) == picture && !isContent(i)) {
                    return true;
                }
            }
            return false;
        }

        void pass(int n) {
            for (int i = 0; i < n; i++) {
                for (int figure = 0; figure < figures; figure++) {
                    if (get(figure, OUT) == 0 && !isContent(figure) && !isWaiting(figure)) {
                        haveAGo(figure);
                    }
                }
                hour++;
            }
        }

        private void haveAGo(int figure) {
            int much = rubs(figure);
            if (much > 0 && isChangedBy(figure, much)) {
                put(figure, WORK, Math.min(get(figure, WORK) + 1, MOST_WORK));
            }
        }

        /** Rubs, and says whether that made a difference. */
        private boolean isChangedBy(int figure, int much) {
            switch (get(figure, WANT)) {
                case SHORTER:
                    return replace(figure, NOSE, Math.max(0, get(figure, NOSE) - much));
                case NEARER:
                    return replace(figure, COLUMN, nearer(figure, much));
                case FARTHER:
                    return replace(figure, COLUMN, farther(figure, much));
                case DARK:
                    return replace(figure, LAMP, 0);
                default:
                    return replace(figure, LAMP, 1);
            }
        }

        private boolean replace(int figure, int what, int v) {
            boolean differs = get(figure, what) != v;
            put(figure, what, v);
            return differs;
        }

        private int nearer(int figure, int much) {
            int column = get(figure, COLUMN);
            int goal = get(get(figure, WHOM), COLUMN);
            return column < goal
                    ? Math.min(column + much, goal - NEAR)
                    : Math.max(column - much, goal + NEAR);
        }

        private int farther(int figure, int much) {
            int column = get(figure, COLUMN);
            return column <= get(get(figure, WHOM), COLUMN)
                    ? Math.max(column - much, 0)
                    : Math.min(column + much, LAST_COLUMN);
        }
    }

    /** Numbers of one width; of 0 bits it is missing. */
    private static final class Sheet {
        int bits;
        int length;
        final long[] numbers;

        Sheet() {
            bits = 0;
            length = 0;
            numbers = new long[MOST_NUMBERS];
        }

        boolean isMissing() {
            return bits == 0;
        }

        void lay(int width, int n) {
            bits = width;
            length = width == 0 ? 0 : n;
            for (int i = 0; i < MOST_NUMBERS; i++) {
                numbers[i] = 0;
            }
        }

        /** Whether it has not n numbers from one on; asked so that no sum can wrap around. */
        boolean lacks(int from, int n) {
            return from < 0 || n < 0 || from > length || n > length - from;
        }

        long get(int i) {
            return i >= 0 && i < length && i < MOST_NUMBERS ? numbers[i] : 0;
        }

        void put(int i, long v) {
            if (i >= 0 && i < length && i < MOST_NUMBERS) {
                numbers[i] = lowest(v);
            }
        }

        private long lowest(long v) {
            switch (bits) {
                case 8:
                    return (byte) v;
                case 16:
                    return (short) v;
                default:
                    return v;
            }
        }
    }

    /**
     * The tape, and the one who tells it token by token. What can't stand is always the token
     * at hand: so the fault is where that begins, and no method needs to say where it failed.
     */
    private static final class Teller {
        private static final int END = 0;
        private static final int WORD = 1;
        private static final int NUMBER = 2;
        private static final int SIGN = 3;
        private static final int NO_TOKEN = 4;
        /** Above every number that may be: longer ones are held to it. */
        private static final int TOO_MUCH = 1000;

        int length;
        private final int[] bytes;
        private int token;
        private int begin;
        private int end;
        private int value;
        private int taken;

        Teller() {
            length = 0;
            bytes = new int[MOST_BYTES];
            token = END;
            begin = 0;
            end = 0;
            value = 0;
            taken = 0;
        }

        void take(int b) {
            if (length >= 0 && length < MOST_BYTES) {
                bytes[length] = b;
                length++;
            }
        }

        /** How many items came to the gallery; or -1 less the fault, and it is half told. */
        int tell(Gallery to) {
            end = 0;
            advance();
            for (int items = 1; items <= MOST_BYTES; items++) {
                if (!isItem(to)) {
                    return -1 - begin;
                }
                if (token == END) {
                    return items;
                }
                if (token != SIGN) {
                    return -1 - begin;
                }
                advance();
            }
            return -1 - begin;
        }

        private boolean isItem(Gallery to) {
            int kind = kindNamed();
            if (kind >= 0) {
                return isFigure(to, kind);
            }
            if (isWord("wants")) {
                return isWanting(to);
            }
            if (isWord("out")) {
                return isLetting(to, 1);
            }
            if (isWord("in")) {
                return isLetting(to, 0);
            }
            if (isWord("tacky")) {
                advance();
                if (!takesNumber(NIGHT_HOURS)) {
                    return false;
                }
                to.tackyFrom = taken;
                return true;
            }
            return false;
        }

        private boolean isFigure(Gallery to, int kind) {
            if (to.isFull()) {
                return false;
            }
            advance();
            if (!takesNumber(LAST_PICTURE)) {
                return false;
            }
            int picture = taken;
            if (!takesNumber(LAST_COLUMN)) {
                return false;
            }
            int figure = to.hang(kind, picture, taken);
            if (isWord("nose")) {
                advance();
                if (!takesNumber(MOST_NOSE)) {
                    return false;
                }
                to.put(figure, NOSE, taken);
            }
            if (isWord("lit")) {
                advance();
                to.put(figure, LAMP, 1);
            }
            return true;
        }

        private boolean isWanting(Gallery to) {
            advance();
            if (!takesNumber(to.figures - 1)) {
                return false;
            }
            int figure = taken;
            int want = wantNamed();
            if (want < 0) {
                return false;
            }
            advance();
            if (want == NEARER || want == FARTHER) {
                if (!takesNumber(to.figures - 1)) {
                    return false;
                }
                to.put(figure, WHOM, taken);
            }
            to.put(figure, WANT, want);
            return true;
        }

        private boolean isLetting(Gallery to, int out) {
            advance();
            if (!takesNumber(to.figures - 1)) {
                return false;
            }
            to.put(taken, OUT, out);
            return true;
        }

        private boolean takesNumber(int most) {
            if (token != NUMBER || value > most) {
                return false;
            }
            taken = value;
            advance();
            return true;
        }

        private int kindNamed() {
            if (isWord("sitter")) {
                return SITTER;
            }
            if (isWord("mayor")) {
                return MAYOR;
            }
            if (isWord("wife")) {
                return WIFE;
            }
            if (isWord("fisher")) {
                return FISHER;
            }
            if (isWord("alderman")) {
                return ALDERMAN;
            }
            return isWord("head") ? HEAD : -1;
        }

        private int wantNamed() {
            if (isWord("shorter")) {
                return SHORTER;
            }
            if (isWord("nearer")) {
                return NEARER;
            }
            if (isWord("farther")) {
                return FARTHER;
            }
            if (isWord("dark")) {
                return DARK;
            }
            return isWord("lit") ? LIT : -1;
        }

        private boolean isWord(String word) {
            if (token != WORD || end - begin != word.length()) {
                return false;
            }
            for (int i = 0; i < word.length(); i++) {
                if (byteAt(begin + i) != word.charAt(i)) {
                    return false;
                }
            }
            return true;
        }

        private void advance() {
            begin = end;
            while (begin < length && byteAt(begin) == ' ') {
                begin++;
            }
            token = tokenOf(byteAt(begin));
            end = begin;
            value = 0;
            if (token == SIGN || token == NO_TOKEN) {
                end = begin + 1;
                return;
            }
            while (end < length && tokenOf(byteAt(end)) == token) {
                if (token == NUMBER) {
                    value = Math.min(10 * value + byteAt(end) - '0', TOO_MUCH);
                }
                end++;
            }
        }

        /** The byte there, or -1 behind the last. */
        private int byteAt(int i) {
            return i >= 0 && i < length && i < MOST_BYTES ? bytes[i] : -1;
        }

        private static int tokenOf(int b) {
            if (b < 0) {
                return END;
            }
            if (b >= 'a' && b <= 'z') {
                return WORD;
            }
            if (b >= '0' && b <= '9') {
                return NUMBER;
            }
            return b == ';' ? SIGN : NO_TOKEN;
        }
    }
}
