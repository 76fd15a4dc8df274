/** A lee shore where souls are washed up, found, called for and handed back; ../shared/DOC.md tells it. */
public final class SoulShore {
    public static final int NONE = -1, BAD = -2, NO = -3, FULL = -4;

    private static final int WRONG = -10, NOT_SO_MANY = -5, NO_WALK = -6;
    private static final int CELLS = 12, SOULS = 6, CALLERS = 6, KINDS = 6;
    private static final int MOST_WEIGHT = 9, MOST_DRY = 99, LAST_TIDE = 999;
    private static final int MOST_WEIGHED = 30, MOST_FELT = 60, MOST_AHEAD = 60;
    private static final int UNDOS = 8, IMAGES = 2, TEXT_LIMIT = 150;
    private static final int SEEN_LIMIT = 5, NOTE_LIMIT = 6, MARK_LIMIT = 6;
    private static final int COUNTS = 11, CLAIMS = 10, WALK_LIMIT = 20, TELL_LIMIT = 20, LOOK_LIMIT = 9;
    private static final int FIRST_DIGEST = 1613;

    private final Beach beach;
    private final Beach future;
    private final Beach[] images;
    private final boolean[] kept;
    private final Reader reader;
    private final WalkSearch walkSearch;
    private final OrderSearch orderSearch;
    private final int[] values;
    private int above;
    private int below;
    private int refusedBad;
    private int refusedNo;
    private int refusedFull;

    public SoulShore() {
        beach = new Beach();
        future = new Beach();
        images = new Beach[IMAGES];
        for (int i = 0; i < IMAGES; i++) {
            images[i] = new Beach();
        }
        kept = new boolean[IMAGES];
        reader = new Reader();
        walkSearch = new WalkSearch();
        orderSearch = new OrderSearch();
        values = new int[SOULS];
        below = 1;
    }

    // ---- a shore

    public int shore() {
        int had = beach.souls;
        beach.reset();
        return had;
    }

    public int current(int c, int v) {
        if (!within(c, 0, CELLS - 1) || !within(v, -2, 2)) {
            return refuseBad(WRONG);
        }
        int was = beach.currents[c];
        beach.currents[c] = v;
        beach.undos = 0;
        return was;
    }

    public int soul(int kind, int weight, int c) {
        if (!within(kind, 0, KINDS - 1) || !within(weight, 1, MOST_WEIGHT) || !within(c, 0, CELLS - 1)) {
            return refuseBad(BAD);
        }
        if (beach.souls >= SOULS) {
            return refuseFull();
        }
        beach.undos = 0;
        return beach.addSoul(kind, weight, c);
    }

    public int caller(int kind) {
        if (!within(kind, 0, KINDS - 1)) {
            return refuseBad(BAD);
        }
        if (beach.callers >= CALLERS) {
            return refuseFull();
        }
        beach.undos = 0;
        return beach.addCaller(kind);
    }

    public int type(int c) {
        if (!within(c, 0, 127)) {
            return refuseBad(BAD);
        }
        if (reader.length >= TEXT_LIMIT) {
            return refuseFull();
        }
        return reader.put(c);
    }

    public int clear() {
        int had = reader.length;
        reader.length = 0;
        return had;
    }

    public int read() {
        int items = reader.readShore();
        if (items == NONE) {
            return WRONG - reader.start;
        }
        beach.copy(reader.told);
        return items;
    }

    // ---- tides

    public int tides(int n) {
        if (!within(n, 1, MOST_AHEAD)) {
            return refuseBad(BAD);
        }
        beach.remember();
        beach.passTides(n);
        return beach.adriftCount();
    }

    public int walks(int s) {
        if (!within(s, -1, 1)) {
            return refuseBad(BAD);
        }
        if (beach.now.tide >= LAST_TIDE) {
            return refuseNo();
        }
        beach.remember();
        int found = beach.gather(s);
        beach.flow();
        return found;
    }

    public int calls(int i) {
        if (!beach.hasCaller(i)) {
            return refuseBad(BAD);
        }
        int s = beach.choice(i);
        if (s == NONE) {
            return refuseNo();
        }
        beach.remember();
        beach.now.holder[s] = i;
        return s;
    }

    public int returns(int i) {
        if (!beach.hasCaller(i)) {
            return refuseBad(BAD);
        }
        int s = beach.heldBy(i);
        if (s == NONE) {
            return refuseNo();
        }
        beach.remember();
        beach.now.holder[s] = NONE;
        return s;
    }

    public int undo() {
        if (beach.undos <= 0) {
            return refuseNo();
        }
        beach.stepBack();
        return beach.now.tide;
    }

    public int of(int s, int what) {
        if (!beach.hasSoul(s) || !within(what, 0, 5)) {
            return refuseBad(BAD);
        }
        return beach.soulFact(s, what);
    }

    public int about(int i, int what) {
        if (!beach.hasCaller(i) || !within(what, 0, 3)) {
            return refuseBad(BAD);
        }
        switch (what) {
            case 0:
                return beach.callerKind[i];
            case 1:
                return beach.heldBy(i);
            case 2:
                return beach.wanted(i);
            default:
                return beach.choice(i);
        }
    }

    // ---- what is where

    public int feels(int s, int i) {
        if (!beach.hasSoul(s) || !beach.hasCaller(i)) {
            return refuseBad(BAD);
        }
        return beach.felt(s, i);
    }

    public int where(int s, int m) {
        if (!beach.hasSoul(s) || !within(m, 0, MOST_AHEAD)) {
            return refuseBad(BAD);
        }
        return beach.cellAhead(s, m);
    }

    public int comes(int c, int m) {
        if (!within(c, 0, CELLS - 1) || !within(m, 0, MOST_AHEAD)) {
            return refuseBad(BAD);
        }
        int bits = 0;
        for (int start = 0; start < CELLS; start++) {
            if (beach.drifted(start, m) == c) {
                bits |= 1 << start;
            }
        }
        return bits;
    }

    public int walk(int souls, int k) {
        if (!within(souls, 0, (1 << beach.souls) - 1) || k < -2 || k == -1) {
            return refuseBad(WRONG);
        }
        if (!walkSearch.find(beach, souls)) {
            return NO_WALK;
        }
        if (k == -2) {
            return walkSearch.steps;
        }
        return k < walkSearch.steps ? walkSearch.stepAt(k) : NOT_SO_MANY;
    }

    public int right() {
        return beach.rightCount();
    }

    public int order(int k) {
        if (k < NONE) {
            return refuseBad(WRONG);
        }
        orderSearch.find(beach);
        if (k == NONE) {
            return orderSearch.most;
        }
        return k < orderSearch.size ? orderSearch.best[k] : NOT_SO_MANY;
    }

    public int swaps() {
        int[] holders = values;
        System.arraycopy(beach.now.holder, 0, holders, 0, SOULS);
        int changes = 0;
        int owned = Math.min(beach.souls, beach.callers);
        for (int i = 0; i < owned; i++) {
            int other = holders[i];
            if (other != NONE && other != i) {
                // one change puts one caller right for good, and two only where nothing is left to do for either
                for (int s = 0; s < beach.souls; s++) {
                    if (holders[s] == i) {
                        holders[s] = other;
                    }
                }
                holders[i] = i;
                changes++;
            }
        }
        return changes;
    }

    // ---- which it was

    public int seen(int m, int c) {
        if (!within(m, 0, MOST_AHEAD) || !within(c, 0, CELLS - 1)) {
            return refuseBad(BAD);
        }
        if (beach.sights.size >= SEEN_LIMIT) {
            return refuseFull();
        }
        return beach.sights.add(m, c, 0, 0);
    }

    public int which() {
        return soulsSeen();
    }

    public int tell() {
        int souls = soulsSeen();
        System.arraycopy(beach.now.cell, 0, values, 0, SOULS);
        int fewest = SOULS + 1;
        int best = NONE;
        for (int m = 0; m <= TELL_LIMIT && souls != 0; m++) {
            int most = mostAlike(souls, values);
            if (most < fewest) {
                fewest = most;
                best = m;
            }
            for (int s = 0; s < SOULS; s++) {
                if (contains(souls, s)) {
                    values[s] = beach.drifted(values[s], 1);
                }
            }
        }
        return best;
    }

    public int note(int s, int w, int d, int x) {
        if (!beach.hasSoul(s) || !within(w, 1, MOST_WEIGHT)
                || !within(d, 0, MOST_DRY) || !within(x, 0, MOST_WEIGHED)) {
            return refuseBad(BAD);
        }
        if (beach.notes.size >= NOTE_LIMIT) {
            return refuseFull();
        }
        return beach.notes.add(s, w, d, x);
    }

    public int mark(int i, int x, int y) {
        if (!beach.hasCaller(i) || !within(x, 0, MOST_WEIGHED) || !within(y, 0, MOST_FELT)) {
            return refuseBad(BAD);
        }
        if (beach.marks.size >= MARK_LIMIT) {
            return refuseFull();
        }
        return beach.marks.add(i, x, y, 0);
    }

    public int forget(int what) {
        switch (what) {
            case 0:
                return beach.sights.drop();
            case 1:
                return beach.notes.drop();
            case 2:
                return beach.marks.drop();
            default:
                return refuseBad(BAD);
        }
    }

    public int is(int s) {
        if (!beach.hasSoul(s)) {
            return refuseBad(BAD);
        }
        return soulKinds(s);
    }

    public int look(int s) {
        if (!beach.hasSoul(s)) {
            return refuseBad(BAD);
        }
        int possible = soulKinds(s);
        int fewest = KINDS + 1;
        int best = NONE;
        for (int d = 0; d <= LOOK_LIMIT && possible != 0; d++) {
            for (int kind = 0; kind < KINDS; kind++) {
                values[kind] = weighed(kind, beach.soulWeight[s], d);
            }
            int most = mostAlike(possible, values);
            if (most < fewest) {
                fewest = most;
                best = d;
            }
        }
        return best;
    }

    public int kinds(int i) {
        if (!beach.hasCaller(i)) {
            return refuseBad(BAD);
        }
        return callerKinds(i);
    }

    public int ask(int i) {
        if (!beach.hasCaller(i)) {
            return refuseBad(BAD);
        }
        int possible = callerKinds(i);
        int fewest = KINDS + 1;
        int best = NONE;
        for (int x = 0; x <= MOST_WEIGHED && possible != 0; x++) {
            for (int kind = 0; kind < KINDS; kind++) {
                values[kind] = heaviness(kind, x);
            }
            int most = mostAlike(possible, values);
            if (most < fewest) {
                fewest = most;
                best = x;
            }
        }
        return best;
    }

    public int claim(int a, int b, int s, int k) {
        if (!beach.hasCaller(a) || !beach.hasCaller(b) || a == b || !beach.hasSoul(s) || k < NONE) {
            return refuseBad(WRONG);
        }
        int worthA = 9 - beach.distance(s, a);
        int worthB = 9 - beach.distance(s, b);
        int resting = 0;
        for (int pair = 0; pair < CLAIMS * CLAIMS; pair++) {
            if (rests(pair / CLAIMS, pair % CLAIMS, worthA, worthB)) {
                if (resting == k) {
                    return pair;
                }
                resting++;
            }
        }
        return k == NONE ? resting : NOT_SO_MANY;
    }

    public int gulls(int c) {
        if (!within(c, 0, 10)) {
            return refuseBad(BAD);
        }
        int together = 0;
        for (int s = 0; s < beach.souls; s++) {
            if (beach.adrift(s)) {
                together += beach.weighs(s);
            }
        }
        keepFraction(together * (10 - c), 10);
        return 1;
    }

    public int years(int seed, int n) {
        if (!within(seed, 0, 999999) || !within(n, 0, MOST_AHEAD)) {
            return refuseBad(BAD);
        }
        future.copy(beach);
        long x = seed;
        for (int t = 0; t < n; t++) {
            x = (x * 1103515245L + 12345L) % 2147483648L;
            future.gather((int) (x / 65536L % 3L) - 1);
            future.flow();
            int i = (int) (x / 1048576L % 6L);
            int s = future.hasCaller(i) ? future.choice(i) : NONE;
            if (s != NONE) {
                future.now.holder[s] = i;
            }
        }
        return future.rightCount();
    }

    // ---- what there is

    public long part(int what) {
        switch (what) {
            case 0:
                return above;
            case 1:
                return below;
            default:
                return refuseBad(BAD);
        }
    }

    public int image(int i) {
        if (!within(i, 0, IMAGES - 1)) {
            return refuseBad(BAD);
        }
        images[i].copy(beach);
        kept[i] = true;
        return 1;
    }

    public int from(int i) {
        if (!within(i, 0, IMAGES - 1)) {
            return refuseBad(BAD);
        }
        if (!kept[i]) {
            return refuseNo();
        }
        beach.copy(images[i]);
        return 1;
    }

    public int status(int what) {
        switch (what) {
            case 0:
                return refusedBad;
            case 1:
                return refusedNo;
            case 2:
                return refusedFull;
            default:
                return refuseBad(-1);
        }
    }

    public int count(int what) {
        if (!within(what, 0, COUNTS - 1)) {
            return refuseBad(BAD);
        }
        return counted(what);
    }

    public long digest() {
        long h = FIRST_DIGEST;
        for (int what = 0; what < COUNTS; what++) {
            h = 31L * h + counted(what);
        }
        for (int c = 0; c < CELLS; c++) {
            h = 31L * h + beach.currents[c];
        }
        for (int s = 0; s < beach.souls; s++) {
            for (int what = 0; what <= 4; what++) {
                h = 31L * h + beach.soulFact(s, what);
            }
        }
        for (int i = 0; i < beach.callers; i++) {
            h = 31L * h + beach.callerKind[i];
        }
        h = beach.sights.mixInto(h);
        h = beach.notes.mixInto(h);
        h = beach.marks.mixInto(h);
        h = 31L * h + above;
        return 31L * h + below;
    }

    // ---- what the calls share

    private int refuseBad(int answer) {
        refusedBad++;
        return answer;
    }

    private int refuseNo() {
        refusedNo++;
        return NO;
    }

    private int refuseFull() {
        refusedFull++;
        return FULL;
    }

    private static boolean within(int v, int least, int most) {
        return v >= least && v <= most;
    }

    private static boolean contains(int bits, int bit) {
        return (bits >> bit & 1) == 1;
    }

    private int counted(int what) {
        switch (what) {
            case 0:
                return beach.souls;
            case 1:
                return beach.callers;
            case 2:
                return beach.now.tide;
            case 3:
                return beach.adriftCount();
            case 4:
                return beach.shelfCount();
            case 5:
                return beach.now.comber;
            case 6:
                return beach.sights.size;
            case 7:
                return beach.notes.size;
            case 8:
                return beach.marks.size;
            case 9:
                return beach.undos;
            default:
                return reader.length;
        }
    }

    /** How much above and below are, in lowest terms; below is 10 at most here. */
    private void keepFraction(int over, int under) {
        above = over;
        below = under;
        for (int d = under; d > 1; d--) {
            if (above % d == 0 && below % d == 0) {
                above /= d;
                below /= d;
            }
        }
    }

    private int soulsSeen() {
        int bits = 0;
        for (int s = 0; s < beach.souls; s++) {
            boolean fits = beach.adrift(s);
            for (int row = 0; row < beach.sights.size && fits; row++) {
                fits = beach.cellAhead(s, beach.sights.get(row, 0)) == beach.sights.get(row, 1);
            }
            if (fits) {
                bits |= 1 << s;
            }
        }
        return bits;
    }

    private int soulKinds(int s) {
        int bits = (1 << KINDS) - 1;
        for (int row = 0; row < beach.notes.size; row++) {
            if (beach.notes.get(row, 0) == s) {
                bits &= kindsWeighing(beach.notes.get(row, 1), beach.notes.get(row, 2), beach.notes.get(row, 3));
            }
        }
        return bits;
    }

    private static int kindsWeighing(int w, int d, int x) {
        int bits = 0;
        for (int kind = 0; kind < KINDS; kind++) {
            if (weighed(kind, w, d) == x) {
                bits |= 1 << kind;
            }
        }
        return bits;
    }

    private int callerKinds(int i) {
        int bits = (1 << KINDS) - 1;
        for (int row = 0; row < beach.marks.size; row++) {
            if (beach.marks.get(row, 0) == i) {
                bits &= kindsFeeling(beach.marks.get(row, 1), beach.marks.get(row, 2));
            }
        }
        return bits;
    }

    private static int kindsFeeling(int x, int y) {
        int bits = 0;
        for (int kind = 0; kind < KINDS; kind++) {
            if (heaviness(kind, x) == y) {
                bits |= 1 << kind;
            }
        }
        return bits;
    }

    /** How many of the members have one value, where the most have it. */
    private static int mostAlike(int members, int[] values) {
        int most = 0;
        for (int a = 0; a < values.length; a++) {
            int alike = 0;
            for (int b = 0; b < values.length; b++) {
                if (contains(members, a) && contains(members, b) && values[a] == values[b]) {
                    alike++;
                }
            }
            most = Math.max(most, alike);
        }
        return most;
    }

    private static boolean rests(int i, int j, int worthA, int worthB) {
        for (int other = 0; other < CLAIMS; other++) {
            if (gainOfFirst(other, j, worthA) > gainOfFirst(i, j, worthA)
                    || gainOfSecond(i, other, worthB) > gainOfSecond(i, j, worthB)) {
                return false;
            }
        }
        return true;
    }

    private static int gainOfFirst(int i, int j, int worth) {
        return i <= j ? worth + i / 2 : 0;
    }

    private static int gainOfSecond(int i, int j, int worth) {
        return j < i ? worth + j / 2 : 0;
    }

    // ---- kinds, each told by the one above it

    private static int weighed(int kind, int w, int d) {
        int sermon = w + 2;
        int sneeze = (w + 1) / 2;
        switch (kind) {
            case 1:
                return sermon;
            case 2:
                return sneeze;
            case 3:
                return d >= 3 ? 2 * sermon : sermon;
            case 4:
                return d >= 5 ? 0 : sneeze;
            case 5:
                return d >= 3 ? w : w + 3 - d;
            default:
                return w;
        }
    }

    private static int heaviness(int kind, int x) {
        int footman = x - x % 2;
        int blank = x > 5 ? 5 : x;
        switch (kind) {
            case 1:
                return footman;
            case 2:
                return blank;
            case 3:
                return footman + 1;
            case 4:
                return 2 * x;
            case 5:
                return blank > 0 ? blank - 1 : 0;
            default:
                return x;
        }
    }

    /** What UNDO brings back. */
    private static final class Moment {
        /** NONE: not adrift. */
        final int[] cell = new int[SOULS];
        /** NONE: held by nobody. */
        final int[] holder = new int[SOULS];
        final int[] dry = new int[SOULS];
        int comber;
        int tide;

        void copy(Moment other) {
            System.arraycopy(other.cell, 0, cell, 0, SOULS);
            System.arraycopy(other.holder, 0, holder, 0, SOULS);
            System.arraycopy(other.dry, 0, dry, 0, SOULS);
            comber = other.comber;
            tide = other.tide;
        }
    }

    /** Rows of up to four numbers, as they come. */
    private static final class Table {
        final int limit;
        final int width;
        final int[] numbers;
        int size;

        Table(int limit, int width) {
            this.limit = limit;
            this.width = width;
            numbers = new int[limit * width];
        }

        int add(int first, int second, int third, int fourth) {
            if (size < limit) {
                put(0, first);
                put(1, second);
                put(2, third);
                put(3, fourth);
                size++;
            }
            return size;
        }

        private void put(int column, int v) {
            if (column < width) {
                numbers[size * width + column] = v;
            }
        }

        int get(int row, int column) {
            return numbers[row * width + column];
        }

        int drop() {
            int had = size;
            size = 0;
            return had;
        }

        void copy(Table other) {
            System.arraycopy(other.numbers, 0, numbers, 0, Math.min(numbers.length, other.numbers.length));
            size = other.size;
        }

        long mixInto(long h) {
            long mixed = h;
            for (int at = 0; at < size * width; at++) {
                mixed = 31L * mixed + numbers[at];
            }
            return mixed;
        }
    }

    /** All that an IMAGE keeps. */
    private static final class Beach {
        final int[] currents = new int[CELLS];
        final int[] soulKind = new int[SOULS];
        final int[] soulWeight = new int[SOULS];
        final int[] callerKind = new int[CALLERS];
        final Moment now = new Moment();
        final Moment[] past = new Moment[UNDOS];
        final Table sights = new Table(SEEN_LIMIT, 2);
        final Table notes = new Table(NOTE_LIMIT, 4);
        final Table marks = new Table(MARK_LIMIT, 3);
        int souls;
        int callers;
        int undos;

        Beach() {
            for (int u = 0; u < UNDOS; u++) {
                past[u] = new Moment();
            }
        }

        void reset() {
            for (int c = 0; c < CELLS; c++) {
                currents[c] = 0;
            }
            now.comber = 0;
            now.tide = 0;
            sights.drop();
            notes.drop();
            marks.drop();
            souls = 0;
            callers = 0;
            undos = 0;
        }

        void copy(Beach other) {
            System.arraycopy(other.currents, 0, currents, 0, CELLS);
            System.arraycopy(other.soulKind, 0, soulKind, 0, SOULS);
            System.arraycopy(other.soulWeight, 0, soulWeight, 0, SOULS);
            System.arraycopy(other.callerKind, 0, callerKind, 0, CALLERS);
            now.copy(other.now);
            for (int u = 0; u < UNDOS; u++) {
                past[u].copy(other.past[u]);
            }
            sights.copy(other.sights);
            notes.copy(other.notes);
            marks.copy(other.marks);
            souls = other.souls;
            callers = other.callers;
            undos = other.undos;
        }

        int addSoul(int kind, int weight, int c) {
            int s = souls;
            soulKind[s] = kind;
            soulWeight[s] = weight;
            now.cell[s] = c;
            now.holder[s] = NONE;
            now.dry[s] = 0;
            souls++;
            return s;
        }

        int addCaller(int kind) {
            int i = callers;
            callerKind[i] = kind;
            callers++;
            return i;
        }

        boolean hasSoul(int s) {
            return within(s, 0, souls - 1);
        }

        boolean hasCaller(int i) {
            return within(i, 0, callers - 1);
        }

        boolean adrift(int s) {
            return now.cell[s] != NONE;
        }

        boolean shelved(int s) {
            return now.cell[s] == NONE && now.holder[s] == NONE;
        }

        int adriftCount() {
            int found = 0;
            for (int s = 0; s < souls; s++) {
                found += adrift(s) ? 1 : 0;
            }
            return found;
        }

        int shelfCount() {
            int found = 0;
            for (int s = 0; s < souls; s++) {
                found += shelved(s) ? 1 : 0;
            }
            return found;
        }

        int soulFact(int s, int what) {
            switch (what) {
                case 0:
                    return soulKind[s];
                case 1:
                    return soulWeight[s];
                case 2:
                    return now.cell[s];
                case 3:
                    return now.holder[s];
                case 4:
                    return now.dry[s];
                default:
                    return weighs(s);
            }
        }

        int weighs(int s) {
            return weighed(soulKind[s], soulWeight[s], now.dry[s]);
        }

        int felt(int s, int i) {
            return heaviness(callerKind[i], weighed(soulKind[s], soulWeight[s], now.dry[s]));
        }

        int wanted(int i) {
            return i < souls ? soulWeight[i] : 5;
        }

        int distance(int s, int i) {
            return Math.abs(felt(s, i) - wanted(i));
        }

        int heldBy(int i) {
            for (int s = 0; s < souls; s++) {
                if (now.holder[s] == i) {
                    return s;
                }
            }
            return NONE;
        }

        /** The soul that a caller would take now; NONE also for one who holds a soul already. */
        int choice(int i) {
            if (heldBy(i) != NONE) {
                return NONE;
            }
            int best = NONE;
            int nearest = 0;
            for (int s = 0; s < souls; s++) {
                if (shelved(s) && (best == NONE || distance(s, i) < nearest)) {
                    best = s;
                    nearest = distance(s, i);
                }
            }
            return best;
        }

        int rightCount() {
            int found = 0;
            for (int s = 0; s < souls; s++) {
                found += now.holder[s] == s ? 1 : 0;
            }
            return found;
        }

        int drifted(int c, int m) {
            int at = c;
            for (int t = 0; t < m; t++) {
                at = Math.max(0, Math.min(CELLS - 1, at + currents[at]));
            }
            return at;
        }

        int cellAhead(int s, int m) {
            return adrift(s) ? drifted(now.cell[s], m) : NONE;
        }

        /** One TIDE, also beyond the last number: who calls minds that. */
        void flow() {
            for (int s = 0; s < souls; s++) {
                if (adrift(s)) {
                    now.cell[s] = drifted(now.cell[s], 1);
                } else if (shelved(s)) {
                    now.dry[s] = Math.min(now.dry[s] + 1, MOST_DRY);
                }
            }
            now.tide++;
        }

        void passTides(int n) {
            for (int t = 0; t < n && now.tide < LAST_TIDE; t++) {
                flow();
            }
        }

        /** A WALK without its TIDE. */
        int gather(int step) {
            now.comber = Math.max(0, Math.min(CELLS - 1, now.comber + step));
            int found = 0;
            for (int s = 0; s < souls; s++) {
                if (now.cell[s] == now.comber) {
                    now.cell[s] = NONE;
                    now.dry[s] = 0;
                    found++;
                }
            }
            return found;
        }

        void remember() {
            if (undos >= UNDOS) {
                for (int u = 1; u < UNDOS; u++) {
                    past[u - 1].copy(past[u]);
                }
                undos = UNDOS - 1;
            }
            past[undos].copy(now);
            undos++;
        }

        void stepBack() {
            if (undos > 0) {
                undos--;
                now.copy(past[undos]);
            }
        }
    }

    /** Reads a shore told by a text; stops at the first token that can not stand there. */
    private static final class Reader {
        static final int END = 0, WORD = 1, NUMBER = 2, SEMICOLON = 3, ODD = 4;
        static final int SHORE = 0, SOUL = 1, CALLER = 2, WALK = 3, CALL = 4, TIDES = 5;

        final byte[] text = new byte[TEXT_LIMIT];
        final Beach told = new Beach();
        int length;
        int at;
        /** The token that is looked at: its first byte, its sort, its number. */
        int start;
        int sort;
        int value;

        int put(int b) {
            if (length < TEXT_LIMIT) {
                text[length] = (byte) b;
                length++;
            }
            return length;
        }

        /** How many items there are; NONE: a token, at start, can not stand there. */
        int readShore() {
            told.reset();
            at = 0;
            for (int items = 0; items <= TEXT_LIMIT; items++) {
                nextToken();
                if (sort == END && items > 0) {
                    return items;
                }
                int word = sort == WORD ? wordNumber() : NONE;
                boolean inPlace = (word == SHORE) == (items == 0);
                if (!inPlace || !readNumbers(word) || !readSemicolon()) {
                    return NONE;
                }
            }
            return NONE;
        }

        private boolean readSemicolon() {
            nextToken();
            return sort == SEMICOLON;
        }

        private boolean readNumbers(int word) {
            switch (word) {
                case SHORE:
                    return readCurrents();
                case SOUL:
                    return told.souls < SOULS && readSoul();
                case CALLER:
                    return told.callers < CALLERS && readCaller();
                case WALK:
                    return readWalk();
                case CALL:
                    return readCall();
                case TIDES:
                    return readTides();
                default:
                    return false;
            }
        }

        private boolean readCurrents() {
            for (int c = 0; c < CELLS; c++) {
                if (!readNumber(0, 4)) {
                    return false;
                }
                told.currents[c] = value - 2;
            }
            return true;
        }

        private boolean readSoul() {
            if (!readNumber(0, KINDS - 1)) {
                return false;
            }
            int kind = value;
            if (!readNumber(1, MOST_WEIGHT)) {
                return false;
            }
            int weight = value;
            if (!readNumber(0, CELLS - 1)) {
                return false;
            }
            told.addSoul(kind, weight, value);
            return true;
        }

        private boolean readCaller() {
            if (!readNumber(0, KINDS - 1)) {
                return false;
            }
            told.addCaller(value);
            return true;
        }

        private boolean readWalk() {
            if (!readNumber(0, 2)) {
                return false;
            }
            told.gather(value - 1);
            told.passTides(1);
            return true;
        }

        private boolean readCall() {
            if (!readNumber(0, told.callers - 1)) {
                return false;
            }
            int s = told.choice(value);
            if (s == NONE) {
                return false;
            }
            told.now.holder[s] = value;
            return true;
        }

        private boolean readTides() {
            if (!readNumber(1, 99)) {
                return false;
            }
            told.passTides(value);
            return true;
        }

        private boolean readNumber(int least, int most) {
            nextToken();
            return sort == NUMBER && within(value, least, most);
        }

        private void nextToken() {
            while (at < length && text[at] == ' ') {
                at++;
            }
            start = at;
            if (at >= length) {
                sort = END;
            } else if (isLetter(text[at])) {
                takeWord();
            } else if (isFigure(text[at])) {
                takeNumber();
            } else {
                sort = text[at] == ';' ? SEMICOLON : ODD;
                at++;
            }
        }

        private void takeWord() {
            while (at < length && isLetter(text[at])) {
                at++;
            }
            sort = WORD;
        }

        private void takeNumber() {
            value = 0;
            while (at < length && isFigure(text[at])) {
                if (at - start < 2) {
                    value = 10 * value + text[at] - '0';
                }
                at++;
            }
            sort = at - start <= 2 ? NUMBER : ODD;
        }

        private int wordNumber() {
            if (matches("shore")) {
                return SHORE;
            }
            if (matches("soul")) {
                return SOUL;
            }
            if (matches("caller")) {
                return CALLER;
            }
            if (matches("walk")) {
                return WALK;
            }
            if (matches("call")) {
                return CALL;
            }
            return matches("tides") ? TIDES : NONE;
        }

        private boolean matches(String word) {
            if (at - start != word.length()) {
                return false;
            }
            for (int n = 0; n < word.length(); n++) {
                if (text[start + n] != word.charAt(n)) {
                    return false;
                }
            }
            return true;
        }

        private static boolean isLetter(byte b) {
            return b >= 'a' && b <= 'z';
        }

        private static boolean isFigure(byte b) {
            return b >= '0' && b <= '9';
        }
    }

    /**
     * The soonest walk. Behind so many steps each comber's cell with each set of souls left stands once,
     * by the first row of steps that comes there; the rows, kept as numbers in threes, stand rising.
     */
    private static final class WalkSearch {
        static final int SETS = 1 << SOULS;
        static final int STATES = CELLS * SETS;

        final int[] states = new int[STATES];
        final int[] nextStates = new int[STATES];
        final long[] rows = new long[STATES];
        final long[] nextRows = new long[STATES];
        final int[] stamps = new int[STATES];
        final int[] cell = new int[SOULS];
        final int[] lying = new int[CELLS];
        int stamp;
        int size;
        int steps;
        long row;

        boolean find(Beach beach, int souls) {
            int left = 0;
            for (int s = 0; s < beach.souls; s++) {
                cell[s] = beach.now.cell[s];
                if (contains(souls, s) && beach.adrift(s)) {
                    left |= 1 << s;
                }
            }
            row = 0;
            states[0] = beach.now.comber * SETS + left;
            rows[0] = 0;
            size = 1;
            boolean found = left == 0;
            for (steps = 0; steps < WALK_LIMIT && !found; steps++) {
                layOut(beach, left);
                found = stepOn();
                drift(beach, left);
            }
            return found;
        }

        /** The k-th step of the row found, and 1. */
        int stepAt(int k) {
            long rest = row;
            for (int n = steps - 1; n > k; n--) {
                rest /= 3;
            }
            return (int) (rest % 3);
        }

        private void layOut(Beach beach, int left) {
            for (int c = 0; c < CELLS; c++) {
                lying[c] = 0;
            }
            for (int s = 0; s < beach.souls; s++) {
                if (contains(left, s)) {
                    lying[cell[s]] |= 1 << s;
                }
            }
        }

        /** All that one more step reaches; true, and the row, when none is left. */
        private boolean stepOn() {
            stamp++;
            int reached = 0;
            for (int n = 0; n < size; n++) {
                int comber = states[n] / SETS;
                for (int s = 0; s <= 2; s++) {
                    int c = Math.max(0, Math.min(CELLS - 1, comber + s - 1));
                    int left = states[n] % SETS & ~lying[c];
                    int to = c * SETS + left;
                    if (left == 0) {
                        row = rows[n] * 3 + s;
                        return true;
                    }
                    if (stamps[to] != stamp) {
                        stamps[to] = stamp;
                        nextStates[reached] = to;
                        nextRows[reached] = rows[n] * 3 + s;
                        reached++;
                    }
                }
            }
            System.arraycopy(nextStates, 0, states, 0, reached);
            System.arraycopy(nextRows, 0, rows, 0, reached);
            size = reached;
            return false;
        }

        private void drift(Beach beach, int left) {
            for (int s = 0; s < beach.souls; s++) {
                if (contains(left, s)) {
                    cell[s] = beach.drifted(cell[s], 1);
                }
            }
        }
    }

    /** The first order of the callers who hold none by which most hold their own. */
    private static final class OrderSearch {
        /** All orders of six. */
        static final int ORDERS = 720;

        final int[] row = new int[CALLERS];
        final int[] best = new int[CALLERS];
        final int[] far = new int[CALLERS * SOULS];
        int shelf;
        int size;
        int most;
        /** No order can do better than this. */
        int hoped;

        void find(Beach beach) {
            listFree(beach);
            measure(beach);
            most = NONE;
            boolean more = true;
            for (int n = 0; n < ORDERS && more; n++) {
                int own = ownBehindRow();
                if (own > most) {
                    most = own;
                    System.arraycopy(row, 0, best, 0, size);
                }
                more = most < hoped && nextRow();
            }
            most += beach.rightCount();
        }

        private void listFree(Beach beach) {
            size = 0;
            for (int i = 0; i < beach.callers; i++) {
                if (beach.heldBy(i) == NONE) {
                    row[size] = i;
                    size++;
                }
            }
        }

        private void measure(Beach beach) {
            shelf = 0;
            for (int s = 0; s < beach.souls; s++) {
                if (beach.shelved(s)) {
                    shelf |= 1 << s;
                }
            }
            hoped = 0;
            for (int n = 0; n < size; n++) {
                hoped += contains(shelf, row[n]) ? 1 : 0;
            }
            for (int s = 0; s < beach.souls; s++) {
                for (int i = 0; i < beach.callers; i++) {
                    far[i * SOULS + s] = beach.distance(s, i);
                }
            }
        }

        private int ownBehindRow() {
            int left = shelf;
            int own = 0;
            for (int n = 0; n < size && left != 0; n++) {
                int s = nearest(row[n], left);
                left &= ~(1 << s);
                own += s == row[n] ? 1 : 0;
            }
            return own;
        }

        private int nearest(int i, int left) {
            int found = NONE;
            int least = 0;
            for (int s = 0; s < SOULS; s++) {
                if (contains(left, s) && (found == NONE || far[i * SOULS + s] < least)) {
                    least = far[i * SOULS + s];
                    found = s;
                }
            }
            return found;
        }

        /** The next order, rising; false behind the last one. */
        private boolean nextRow() {
            int turn = size - 2;
            while (turn >= 0 && row[turn] > row[turn + 1]) {
                turn--;
            }
            if (turn < 0) {
                return false;
            }
            int next = size - 1;
            while (next > turn && row[next] < row[turn]) {
                next--;
            }
            exchange(turn, next);
            for (int a = turn + 1, b = size - 1; a < b; a++, b--) {
                exchange(a, b);
            }
            return true;
        }

        private void exchange(int a, int b) {
            int held = row[a];
            row[a] = row[b];
            row[b] = held;
        }
    }
}
