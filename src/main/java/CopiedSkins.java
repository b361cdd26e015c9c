/** Pictures that were traced from one another, on sheets and on skins: see README.md. */
public final class CopiedSkins {
    public static final int NONE = -6, UNKNOWN = -1, OUTSIDE = -2, STATE = -3, FULL = -4, NO = -5;

    private static final int STROKES = 8;
    private static final int STROKE_KINDS = 4;
    private static final int PLAIN = 1;
    private static final int THICK = 3;
    private static final int GREATEST_DRAWING = 65535;
    private static final int ALL_STROKES = 255;
    private static final int MOST_PICTURES = 6;
    private static final int GREATEST_YEAR = 99;
    private static final int GREATEST_WIDTH = 999;
    private static final int GREATEST_SPAN = 99;
    private static final int GREATEST_MORE = 99;
    private static final int LEAST_SIGN = 33;
    private static final int GREATEST_SIGN = 126;
    private static final int MOST_SIGNS = 50;
    private static final int USUAL_SLIP = 10;
    private static final int DRAWN_ANEW = 9;
    private static final int SAVES_ABOVE = 10000;
    private static final int MOST_MEN = 8;
    private static final int MOST_MEETINGS = 16;
    private static final int GREATEST_DAY = 99;
    private static final int NOT_SICK = -1;
    private static final int IMAGES = 2;

    private static final int SETTINGS = 4;
    private static final int SET_NEW = 0;
    private static final int SET_NOW = 1;
    private static final int SET_WAIT = 2;
    private static final int SET_OPEN = 3;

    private final Album album;
    private final Album[] images;
    private final LawText text;
    private final Trees trees;
    private final Ages ages;
    private final Covers covers;
    private final Needle needle;

    public CopiedSkins() {
        album = new Album();
        images = new Album[IMAGES];
        text = new LawText();
        trees = new Trees(album);
        ages = new Ages(album);
        covers = new Covers(album);
        needle = new Needle();
    }

    // ---- 1 pictures, the law

    public int picture(int drawing, int least, int greatest) {
        if (!isDrawing(drawing) || !isSpan(least, greatest, 0, GREATEST_YEAR)) {
            return OUTSIDE;
        }
        if (album.pictures >= MOST_PICTURES) {
            return FULL;
        }
        trees.forget();
        return album.addPicture(drawing, least, greatest);
    }

    public int about(int picture, int what) {
        if (!album.hasPicture(picture)) {
            return UNKNOWN;
        }
        switch (what) {
            case 0: return album.drawings[picture];
            case 1: return album.earliest[picture];
            case 2: return album.latest[picture];
            case 3: return album.widthOrNone(picture);
            default: return OUTSIDE;
        }
    }

    public int set(int which, int v) {
        if (!within(which, 0, SETTINGS - 1)) {
            return OUTSIDE;
        }
        boolean ofDays = which == SET_WAIT || which == SET_OPEN;
        if (!within(v, ofDays ? 1 : 0, ofDays ? 30 : 99)) {
            return OUTSIDE;
        }
        int was = album.settings[which];
        album.settings[which] = v;
        if (which == SET_NEW) {
            trees.forget();
        }
        return was;
    }

    public int say(int sign) {
        if (!within(sign, LEAST_SIGN, GREATEST_SIGN)) {
            return OUTSIDE;
        }
        if (text.count >= MOST_SIGNS) {
            return FULL;
        }
        text.append(sign);
        return text.count;
    }

    public int wipe() {
        int were = text.count;
        text.count = 0;
        return were;
    }

    public int fault() {
        return text.faultPlace();
    }

    public int law() {
        if (text.faultPlace() != NONE) {
            return NO;
        }
        album.lines = text.readInto(album.slips);
        text.count = 0;
        trees.forget();
        return album.lines;
    }

    public int slip(int from, int to) {
        if (!within(from, 0, STROKE_KINDS - 1) || !within(to, 0, STROKE_KINDS - 1)) {
            return OUTSIDE;
        }
        return album.slips[from][to];
    }

    public int cost(int from, int to) {
        if (!isDrawing(from) || !isDrawing(to)) {
            return OUTSIDE;
        }
        return album.tracingCost(from, to);
    }

    // ---- 2 trees

    public int least(int what) {
        if (!within(what, 0, 2)) {
            return OUTSIDE;
        }
        if (album.pictures == 0) {
            return STATE;
        }
        trees.learn();
        switch (what) {
            case 0: return trees.leastCost;
            case 1: return trees.countWithin(0);
            default: return trees.count;
        }
    }

    public int kept(int more, int i, int picture) {
        if (i != -1 && picture != DRAWN_ANEW && !album.hasPicture(picture)) {
            return UNKNOWN;
        }
        if (!within(more, 0, GREATEST_MORE)) {
            return OUTSIDE;
        }
        if (album.pictures == 0) {
            return STATE;
        }
        trees.learn();
        if (i == -1) {
            return trees.countWithin(more);
        }
        int tree = trees.placeOfKept(more, i);
        if (tree == NONE) {
            return NONE;
        }
        return picture == DRAWN_ANEW ? trees.costs[tree] : Trees.sourceIn(trees.rows[tree], picture);
    }

    public int sure(int more, int picture) {
        if (picture != DRAWN_ANEW && !album.hasPicture(picture)) {
            return UNKNOWN;
        }
        if (!within(more, 0, GREATEST_MORE)) {
            return OUTSIDE;
        }
        if (album.pictures == 0) {
            return STATE;
        }
        trees.learn();
        return trees.alwaysFrom(more, picture);
    }

    public int lost(int picture, int others, int what) {
        if (picture != -1 && !album.hasPicture(picture)) {
            return UNKNOWN;
        }
        // an unsigned shift, so that bits of a number below 0 are pictures that are not there, too
        if (others >>> album.pictures != 0) {
            return UNKNOWN;
        }
        boolean amongThem = picture >= 0 && hasBit(others, picture);
        if (others == 0 || amongThem || !within(what, 0, 2)) {
            return OUTSIDE;
        }
        int drawing = album.lostDrawing(picture, others);
        if (what == 0) {
            return drawing;
        }
        int cost = album.throughCost(picture, drawing, others);
        return what == 1 ? cost : SAVES_ABOVE + album.straightCost(picture, others) - cost;
    }

    // ---- 3 ages

    public int width(int picture, int v) {
        if (!album.hasPicture(picture)) {
            return UNKNOWN;
        }
        if (!within(v, 0, GREATEST_WIDTH)) {
            return OUTSIDE;
        }
        int was = album.widthOrNone(picture);
        album.widths[picture] = v;
        return was;
    }

    public int spread(int which, int least, int greatest) {
        if (!within(which, 0, 1) || !isSpan(least, greatest, 1, GREATEST_SPAN)) {
            return OUTSIDE;
        }
        int was = 100 * album.spanLeast[which] + album.spanGreatest[which];
        album.spanLeast[which] = least;
        album.spanGreatest[which] = greatest;
        return was;
    }

    public int aged(int picture, int what) {
        if (!album.hasPicture(picture)) {
            return UNKNOWN;
        }
        if (!within(what, 0, 2)) {
            return OUTSIDE;
        }
        if (album.widths[picture] == 0) {
            return STATE;
        }
        ages.measure(album.widths[picture]);
        if (ages.count == 0) {
            return NO;
        }
        switch (what) {
            case 0: return ages.first;
            case 1: return ages.last;
            default: return ages.count;
        }
    }

    public int take(int picture) {
        if (!album.hasPicture(picture)) {
            return UNKNOWN;
        }
        if (album.widths[picture] == 0) {
            return STATE;
        }
        ages.measure(album.widths[picture]);
        int earliest = Math.max(album.earliest[picture], ages.first);
        int latest = Math.min(album.latest[picture], ages.last);
        if (ages.count == 0 || earliest > latest) {
            return NO;
        }
        album.earliest[picture] = earliest;
        album.latest[picture] = latest;
        trees.forget();
        return latest - earliest + 1;
    }

    // ---- 4 covers

    public int hide(int stroke, boolean thick, int strokes) {
        if (!within(stroke, 0, STROKES - 1)) {
            return UNKNOWN;
        }
        if (!within(strokes, 0, ALL_STROKES)) {
            return OUTSIDE;
        }
        int[] hidden = thick ? album.thickHides : album.plainHides;
        int was = hidden[stroke];
        hidden[stroke] = strokes;
        return was;
    }

    public int hides(int drawing, int what) {
        if (!isDrawing(drawing) || !within(what, 0, 1)) {
            return OUTSIDE;
        }
        return what == 0 ? album.hiddenBy(drawing) : inkOf(drawing);
    }

    public int cover(int drawing) {
        if (!isDrawing(drawing)) {
            return OUTSIDE;
        }
        return covers.leastOver(strokesIn(drawing));
    }

    public int under(int drawing) {
        if (!isDrawing(drawing)) {
            return OUTSIDE;
        }
        int hidden = album.hiddenBy(drawing);
        int found = 0;
        for (int p = 0; p < album.pictures; p++) {
            if (mayLieUnder(album.drawings[p], drawing, hidden)) {
                found |= 1 << p;
            }
        }
        return found;
    }

    // ---- 5 the needle

    public int man() {
        if (needle.men >= MOST_MEN) {
            return FULL;
        }
        needle.men++;
        return needle.men - 1;
    }

    public int meet(int man, int day) {
        if (!needle.hasMan(man)) {
            return UNKNOWN;
        }
        if (!within(day, needle.lastDay(), GREATEST_DAY)) {
            return OUTSIDE;
        }
        if (needle.meetings >= MOST_MEETINGS) {
            return FULL;
        }
        return needle.addMeeting(man, day);
    }

    public int sick(int man, int day) {
        if (!needle.hasMan(man)) {
            return UNKNOWN;
        }
        if (!within(day, NOT_SICK, GREATEST_DAY)) {
            return OUTSIDE;
        }
        int was = needle.sickDays[man];
        needle.sickDays[man] = day;
        return was == NOT_SICK ? NONE : was;
    }

    public int from(int man) {
        if (!needle.hasMan(man)) {
            return UNKNOWN;
        }
        return needle.giversOf(man, album.settings[SET_WAIT], album.settings[SET_OPEN]);
    }

    public int firsts(int what) {
        if (!within(what, 0, 1)) {
            return OUTSIDE;
        }
        if (what == 1) {
            return needle.sickMen();
        }
        needle.trace(album.settings[SET_WAIT], album.settings[SET_OPEN]);
        return needle.firstMen;
    }

    public int must(int man, int what) {
        if (!needle.hasMan(man)) {
            return UNKNOWN;
        }
        if (!within(what, 0, 1)) {
            return OUTSIDE;
        }
        needle.trace(album.settings[SET_WAIT], album.settings[SET_OPEN]);
        return what == 0 ? needle.onAllPathsTo(man) : needle.shortestPathTo(man, needle.sickMen());
    }

    public int image(int n) {
        if (!within(n, 0, IMAGES - 1)) {
            return OUTSIDE;
        }
        Album kept = images[n];
        if (kept == null) {
            kept = new Album();
            images[n] = kept;
        }
        kept.copyOf(album);
        return 1;
    }

    public int restore(int n) {
        if (!within(n, 0, IMAGES - 1)) {
            return OUTSIDE;
        }
        Album kept = images[n];
        if (kept == null) {
            return STATE;
        }
        album.copyOf(kept);
        trees.forget();
        return 1;
    }

    public int told(int what) {
        switch (what) {
            case 0: return album.pictures;
            case 1: return text.count;
            case 2: return album.lines;
            case 3: return needle.men;
            case 4: return needle.meetings;
            case 5: return album.settings[SET_NEW];
            case 6: return album.settings[SET_NOW];
            case 7: return album.settings[SET_WAIT];
            case 8: return album.settings[SET_OPEN];
            default: return OUTSIDE;
        }
    }

    // ---- what drawings and numbers are

    private static boolean within(int v, int least, int greatest) {
        return v >= least && v <= greatest;
    }

    private static boolean isSpan(int least, int greatest, int lowest, int highest) {
        return least >= lowest && least <= greatest && greatest <= highest;
    }

    private static boolean isDrawing(int drawing) {
        return within(drawing, 0, GREATEST_DRAWING);
    }

    private static boolean hasBit(int bits, int place) {
        return (bits >> place & 1) != 0;
    }

    private static int strokeOf(int drawing, int stroke) {
        return drawing >> 2 * (STROKES - 1 - stroke) & 3;
    }

    private static int strokesIn(int drawing) {
        int found = 0;
        for (int s = 0; s < STROKES; s++) {
            if (strokeOf(drawing, s) != 0) {
                found |= 1 << s;
            }
        }
        return found;
    }

    private static int inkOf(int drawing) {
        int ink = 0;
        for (int s = 0; s < STROKES; s++) {
            int kind = strokeOf(drawing, s);
            if (kind == THICK) {
                ink += 2;
            } else if (kind != 0) {
                ink++;
            }
        }
        return ink;
    }

    private static boolean mayLieUnder(int old, int shown, int hidden) {
        for (int s = 0; s < STROKES; s++) {
            int kind = strokeOf(old, s);
            if (kind != 0 && !hasBit(hidden, s) && kind != strokeOf(shown, s)) {
                return false;
            }
        }
        return true;
    }

    /** All that an image keeps, in one place, so that nothing of it is forgotten. */
    private static final class Album {
        int pictures;
        int lines;
        final int[] drawings = new int[MOST_PICTURES];
        final int[] earliest = new int[MOST_PICTURES];
        final int[] latest = new int[MOST_PICTURES];
        // 0 is a sheet
        final int[] widths = new int[MOST_PICTURES];
        final int[][] slips = new int[STROKE_KINDS][STROKE_KINDS];
        final int[] settings = {20, 99, 10, 10};
        // of FIRST, of SPREAD
        final int[] spanLeast = {10, 1};
        final int[] spanGreatest = {10, 1};
        final int[] plainHides = new int[STROKES];
        final int[] thickHides = new int[STROKES];

        Album() {
            for (int a = 0; a < STROKE_KINDS; a++) {
                for (int b = 0; b < STROKE_KINDS; b++) {
                    slips[a][b] = a == b ? 0 : USUAL_SLIP;
                }
            }
            for (int s = 0; s < STROKES; s++) {
                plainHides[s] = 1 << s;
                thickHides[s] = 1 << s;
            }
        }

        void copyOf(Album other) {
            pictures = other.pictures;
            lines = other.lines;
            System.arraycopy(other.drawings, 0, drawings, 0, MOST_PICTURES);
            System.arraycopy(other.earliest, 0, earliest, 0, MOST_PICTURES);
            System.arraycopy(other.latest, 0, latest, 0, MOST_PICTURES);
            System.arraycopy(other.widths, 0, widths, 0, MOST_PICTURES);
            for (int a = 0; a < STROKE_KINDS; a++) {
                System.arraycopy(other.slips[a], 0, slips[a], 0, STROKE_KINDS);
            }
            System.arraycopy(other.settings, 0, settings, 0, SETTINGS);
            System.arraycopy(other.spanLeast, 0, spanLeast, 0, 2);
            System.arraycopy(other.spanGreatest, 0, spanGreatest, 0, 2);
            System.arraycopy(other.plainHides, 0, plainHides, 0, STROKES);
            System.arraycopy(other.thickHides, 0, thickHides, 0, STROKES);
        }

        boolean hasPicture(int picture) {
            return picture >= 0 && picture < pictures;
        }

        int addPicture(int drawing, int least, int greatest) {
            int number = pictures;
            drawings[number] = drawing;
            earliest[number] = least;
            latest[number] = greatest;
            // a sheet at first, whatever stood in this place
            widths[number] = 0;
            pictures++;
            return number;
        }

        int widthOrNone(int picture) {
            return widths[picture] == 0 ? NONE : widths[picture];
        }

        int tracingCost(int from, int to) {
            int sum = 0;
            for (int s = 0; s < STROKES; s++) {
                sum += slips[strokeOf(from, s)][strokeOf(to, s)];
            }
            return sum;
        }

        /** Each stroke is chosen alone: the least kind of the cheapest ones makes the least number. */
        int lostDrawing(int picture, int others) {
            int drawing = 0;
            for (int s = 0; s < STROKES; s++) {
                int best = 0;
                int bestCost = lostStrokeCost(picture, others, s, 0);
                for (int kind = 1; kind < STROKE_KINDS; kind++) {
                    int cost = lostStrokeCost(picture, others, s, kind);
                    if (cost < bestCost) {
                        best = kind;
                        bestCost = cost;
                    }
                }
                drawing = drawing * STROKE_KINDS + best;
            }
            return drawing;
        }

        private int lostStrokeCost(int picture, int others, int stroke, int kind) {
            int sum = picture < 0 ? 0 : slips[strokeOf(drawings[picture], stroke)][kind];
            for (int p = 0; p < pictures; p++) {
                if (hasBit(others, p)) {
                    sum += slips[kind][strokeOf(drawings[p], stroke)];
                }
            }
            return sum;
        }

        int throughCost(int picture, int drawing, int others) {
            int sum = picture < 0 ? settings[SET_NEW] : tracingCost(drawings[picture], drawing);
            for (int p = 0; p < pictures; p++) {
                if (hasBit(others, p)) {
                    sum += tracingCost(drawing, drawings[p]);
                }
            }
            return sum;
        }

        int straightCost(int picture, int others) {
            int sum = 0;
            for (int p = 0; p < pictures; p++) {
                if (hasBit(others, p)) {
                    sum += picture < 0 ? settings[SET_NEW] : tracingCost(drawings[picture], drawings[p]);
                }
            }
            return sum;
        }

        int hiddenBy(int drawing) {
            int hidden = 0;
            for (int s = 0; s < STROKES; s++) {
                int kind = strokeOf(drawing, s);
                if (kind == THICK) {
                    hidden |= thickHides[s];
                } else if (kind != 0) {
                    hidden |= plainHides[s];
                }
            }
            return hidden;
        }
    }

    /** The signs said so far, and how they are read as a law. */
    private static final class LawText {
        private static final int AT_FROM = 0;
        private static final int AT_TO = 1;
        private static final int AT_EQUALS = 2;
        private static final int AT_DIGIT = 3;
        private static final int AFTER_DIGIT = 4;
        private static final int AFTER_DIGITS = 5;
        private static final int WRONG = -1;
        private static final int NOT_YET = -1;

        int count;
        private final int[] signs = new int[MOST_SIGNS];

        void append(int sign) {
            if (count < MOST_SIGNS) {
                signs[count] = sign;
                count++;
            }
        }

        int faultPlace() {
            int place = AT_FROM;
            for (int i = 0; i < count; i++) {
                place = placeAfter(place, signs[i]);
                if (place == WRONG) {
                    return i;
                }
            }
            return place >= AFTER_DIGIT ? NONE : count;
        }

        private static int placeAfter(int place, int sign) {
            switch (place) {
                case AT_FROM:
                case AT_TO:
                    return sign == '*' || within(sign, '0', '3') ? place + 1 : WRONG;
                case AT_EQUALS:
                    return sign == '=' ? AT_DIGIT : WRONG;
                case AT_DIGIT:
                    return isDigit(sign) ? AFTER_DIGIT : WRONG;
                case AFTER_DIGIT:
                    return isDigit(sign) ? AFTER_DIGITS : afterLine(sign);
                default:
                    return afterLine(sign);
            }
        }

        private static int afterLine(int sign) {
            return sign == ';' ? AT_FROM : WRONG;
        }

        private static boolean isDigit(int sign) {
            return within(sign, '0', '9');
        }

        /** Reads signs that have no fault; answers how many lines they are. */
        int readInto(int[][] slips) {
            for (int a = 0; a < STROKE_KINDS; a++) {
                for (int b = 0; b < STROKE_KINDS; b++) {
                    slips[a][b] = a == b ? 0 : NOT_YET;
                }
            }
            int lines = 0;
            int place = AT_FROM;
            int from = 0;
            int to = 0;
            int cost = 0;
            for (int i = 0; i < count; i++) {
                int sign = signs[i];
                if (place == AT_FROM) {
                    from = sign;
                } else if (place == AT_TO) {
                    to = sign;
                } else if (place == AT_DIGIT) {
                    cost = sign - '0';
                } else if (place == AFTER_DIGIT && isDigit(sign)) {
                    cost = cost * 10 + sign - '0';
                }
                place = placeAfter(place, sign);
                boolean lineEnds = i == count - 1 || sign == ';';
                if (lineEnds) {
                    fill(slips, from, to, cost);
                    lines++;
                }
            }
            fill(slips, '*', '*', USUAL_SLIP);
            return lines;
        }

        /** Leaves alone what an earlier line has told, because the first that fits counts. */
        private static void fill(int[][] slips, int from, int to, int cost) {
            for (int a = 0; a < STROKE_KINDS; a++) {
                for (int b = 0; b < STROKE_KINDS; b++) {
                    if (fits(from, a) && fits(to, b) && slips[a][b] == NOT_YET) {
                        slips[a][b] = cost;
                    }
                }
            }
        }

        private static boolean fits(int sign, int kind) {
            return sign == '*' || sign - '0' == kind;
        }
    }

    /** All trees in the order of their rows, kept until something changes that they hang on. */
    private static final class Trees {
        private static final int BITS = 4;

        int count;
        int leastCost;
        // of each tree the sources of its pictures, four bits each
        int[] rows = new int[1];
        int[] costs = new int[1];
        private final Album album;
        private boolean known;
        private int pictures;
        private int newCost;
        private final int[] sources = new int[MOST_PICTURES];
        private final int[][] tracing = new int[MOST_PICTURES][MOST_PICTURES];
        private final boolean[] mayTrace = new boolean[MOST_PICTURES * MOST_PICTURES];

        Trees(Album album) {
            this.album = album;
        }

        void forget() {
            known = false;
        }

        void learn() {
            if (known) {
                return;
            }
            known = true;
            count = 0;
            pictures = album.pictures;
            newCost = album.settings[SET_NEW];
            makeRoom(pictures);
            for (int from = 0; from < pictures; from++) {
                for (int to = 0; to < pictures; to++) {
                    tracing[from][to] = album.tracingCost(album.drawings[from], album.drawings[to]);
                    mayTrace[from * MOST_PICTURES + to] = from != to
                            && album.earliest[from] <= album.latest[to];
                }
            }
            grow(this, 0, 0, 0);
            leastCost = costs[0];
            for (int t = 1; t < count; t++) {
                leastCost = Math.min(leastCost, costs[t]);
            }
        }

        /** There are (n + 1) to the power of (n - 1) trees of n pictures if all years fit. */
        private void makeRoom(int n) {
            int most = 1;
            for (int i = 1; i < n; i++) {
                most *= n + 1;
            }
            if (rows.length < most) {
                rows = new int[most];
                costs = new int[most];
            }
        }

        /** Sources are tried from the least on, so that the rows come in their order. */
        private static void grow(Trees t, int picture, int row, int cost) {
            if (picture >= t.pictures) {
                t.put(row, cost);
                return;
            }
            for (int from = 0; from < t.pictures; from++) {
                if (t.mayTrace[from * MOST_PICTURES + picture] && !t.comesFrom(from, picture)) {
                    t.sources[picture] = from;
                    grow(t, picture + 1, row | from << BITS * picture, cost + t.tracing[from][picture]);
                }
            }
            t.sources[picture] = DRAWN_ANEW;
            grow(t, picture + 1, row | DRAWN_ANEW << BITS * picture, cost + t.newCost);
        }

        private void put(int row, int cost) {
            if (count < rows.length && count < costs.length) {
                rows[count] = row;
                costs[count] = cost;
                count++;
            }
        }

        /** Only pictures below the one that is asked for have their sources yet. */
        private boolean comesFrom(int picture, int ancestor) {
            int at = picture;
            for (int step = 0; step < pictures && at < ancestor; step++) {
                at = sources[at];
            }
            return at == ancestor;
        }

        static int sourceIn(int row, int picture) {
            return row >> BITS * picture & 15;
        }

        int countWithin(int more) {
            int found = 0;
            for (int t = 0; t < count; t++) {
                if (costs[t] <= leastCost + more) {
                    found++;
                }
            }
            return found;
        }

        int placeOfKept(int more, int i) {
            int found = 0;
            for (int t = 0; t < count; t++) {
                if (costs[t] <= leastCost + more) {
                    if (found == i) {
                        return t;
                    }
                    found++;
                }
            }
            return NONE;
        }

        int alwaysFrom(int more, int source) {
            int always = (1 << pictures) - 1;
            for (int t = 0; t < count && always != 0; t++) {
                if (costs[t] <= leastCost + more) {
                    always &= tracedFrom(rows[t], source);
                }
            }
            return always;
        }

        private int tracedFrom(int row, int source) {
            int found = 0;
            for (int p = 0; p < pictures; p++) {
                if (sourceIn(row, p) == source) {
                    found |= 1 << p;
                }
            }
            return found;
        }
    }

    /** The years in which a line of some width can have been made. */
    private static final class Ages {
        int first;
        int last;
        int count;
        private final Album album;

        Ages(Album album) {
            this.album = album;
        }

        void measure(int width) {
            first = 0;
            last = 0;
            count = 0;
            int now = album.settings[SET_NOW];
            for (int year = 0; year <= now; year++) {
                if (canReach(width, now - year)) {
                    if (count == 0) {
                        first = year;
                    }
                    last = year;
                    count++;
                }
            }
        }

        private boolean canReach(int width, int years) {
            for (int spread = album.spanLeast[1]; spread <= album.spanGreatest[1]; spread++) {
                int drawn = width - spread * years;
                if (within(drawn, album.spanLeast[0], album.spanGreatest[0])) {
                    return true;
                }
            }
            return false;
        }
    }

    /** The search for the cover of least ink. */
    private static final class Covers {
        private static final int TOO_MUCH_INK = 2 * STROKES + 1;

        private final Album album;
        private int bestInk;
        private int best;

        Covers(Album album) {
            this.album = album;
        }

        int leastOver(int strokes) {
            bestInk = TOO_MUCH_INK;
            best = NONE;
            search(this, 0, strokes, 0, 0);
            return best;
        }

        /**
         * Covers are tried from the least number on, so that one of as much ink as the best so far can be left.
         * A turned stroke hides what a plain one hides and has the greater number: it is never needed.
         */
        private static void search(Covers c, int stroke, int open, int ink, int drawing) {
            if (ink >= c.bestInk) {
                return;
            }
            if (open == 0) {
                c.bestInk = ink;
                c.best = drawing;
                return;
            }
            if (stroke >= STROKES) {
                return;
            }
            int unit = 1 << 2 * (STROKES - 1 - stroke);
            search(c, stroke + 1, open, ink, drawing);
            search(c, stroke + 1, open & ~c.album.plainHides[stroke], ink + 1, drawing + PLAIN * unit);
            search(c, stroke + 1, open & ~c.album.thickHides[stroke], ink + 2, drawing + THICK * unit);
        }
    }

    /** The men, their meetings, and who may have had the sickness from whom. */
    private static final class Needle {
        int men;
        int meetings;
        int firstMen;
        final int[] sickDays = new int[MOST_MEN];
        private final int[] meetingMen = new int[MOST_MEETINGS];
        private final int[] meetingDays = new int[MOST_MEETINGS];
        private final int[] givers = new int[MOST_MEN];

        Needle() {
            for (int m = 0; m < MOST_MEN; m++) {
                sickDays[m] = NOT_SICK;
            }
        }

        boolean hasMan(int man) {
            return man >= 0 && man < men;
        }

        int lastDay() {
            return meetings == 0 ? 0 : meetingDays[meetings - 1];
        }

        int addMeeting(int man, int day) {
            int number = meetings;
            meetingMen[number] = man;
            meetingDays[number] = day;
            meetings++;
            return number;
        }

        int sickMen() {
            int found = 0;
            for (int m = 0; m < men; m++) {
                if (sickDays[m] != NOT_SICK) {
                    found |= 1 << m;
                }
            }
            return found;
        }

        int giversOf(int man, int wait, int open) {
            int found = 0;
            if (sickDays[man] == NOT_SICK) {
                return found;
            }
            for (int k = 1; k < meetings; k++) {
                int giver = meetingMen[k - 1];
                int day = meetingDays[k];
                boolean his = meetingMen[k] == man && giver != man;
                if (his && within(sickDays[man] - day, 1, wait) && couldGive(giver, day, wait, open)) {
                    found |= 1 << giver;
                }
            }
            return found;
        }

        /** He had it on a day from (sick - wait) to (sick - 1), and that day is at most (open - 1) days past. */
        private boolean couldGive(int giver, int day, int wait, int open) {
            int sick = sickDays[giver];
            return sick != NOT_SICK && sick - wait <= day && day - (open - 1) <= sick - 1;
        }

        /** Finds all givers and firsts once a call, for the paths. */
        void trace(int wait, int open) {
            firstMen = 0;
            int ill = sickMen();
            for (int m = 0; m < men; m++) {
                givers[m] = giversOf(m, wait, open);
                if (hasBit(ill, m) && givers[m] == 0) {
                    firstMen |= 1 << m;
                }
            }
        }

        /** How many men it has, by allowed men (bits) alone; 0 if there is none. */
        int shortestPathTo(int man, int allowed) {
            int reached = firstMen & allowed;
            for (int length = 1; length <= men; length++) {
                if (hasBit(reached, man)) {
                    return length;
                }
                reached |= nextTo(reached) & allowed;
            }
            return 0;
        }

        private int nextTo(int reached) {
            int found = 0;
            for (int m = 0; m < men; m++) {
                if ((givers[m] & reached) != 0) {
                    found |= 1 << m;
                }
            }
            return found;
        }

        /** A man is on all paths if there is none without him. */
        int onAllPathsTo(int man) {
            int found = 0;
            int ill = sickMen();
            if (shortestPathTo(man, ill) == 0) {
                return found;
            }
            for (int m = 0; m < men; m++) {
                if (shortestPathTo(man, ill & ~(1 << m)) == 0) {
                    found |= 1 << m;
                }
            }
            return found;
        }
    }
}
