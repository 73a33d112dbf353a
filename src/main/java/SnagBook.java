import java.util.Arrays;

/** The book of faults of new homes: the document's face, and the rows it keeps. */
public final class SnagBook {
    public static final int NONE = -1, FULL = -2, STATE = -3, NOT = -4, BIG = -5, NO_VALUE = -2000000000;

    private static final int LAST_DAY = 9999;
    private static final int STREETS = 8;
    private static final int PLOTS = 100;
    private static final int HEIGHTS = 1000;
    /** How many CREWS, BATCHES, EYES and TRADES there are, ten of each. */
    private static final int TEN = 10;
    private static final int BUYER = 10;
    private static final int ROOMS = 12;
    private static final int ROOMS_OF_FLOOR = 4;
    private static final int TOP_FLOOR = 2;
    private static final int WEEK = 7;

    private static final int MOST_HOMES = 40;
    private static final int MOST_KINDS = 20;
    private static final int MOST_FAULTS = 200;
    private static final int MOST_SALES = 20;
    private static final int MOST_KEPT = 99999;
    private static final int MOST_SPAN = 60;
    private static final int MOST_BYTES = 160;
    private static final int MOST_SAID_IN_BOUNDS = 40;

    private static final int LEAKS = 1;
    private static final int CRACK = 2;
    private static final int STAIN = 4;

    private static final int OPEN = 0;
    private static final int PROMISED = 1;
    private static final int SAID = 2;
    private static final int CLOSED = 3;
    private static final int VOID = 4;

    private static final int NO_PROMISE = 0;
    private static final int RUNNING = 1;
    private static final int KEPT = 2;
    private static final int BROKEN = 3;

    private static final int DRYING = 1;
    private static final int MOVING_GROUND = 2;

    /** Groups are 10 times the sort and the number; the last is LOW ground. */
    private static final int LOW_GROUP = 30;

    private final Home[] homes = new Home[MOST_HOMES];
    private int homeCount;
    private final Kind[] kinds = new Kind[MOST_KINDS];
    private int kindCount;
    private final Fault[] faults = new Fault[MOST_FAULTS];
    private int faultCount;
    private int today;
    private int span = 14;
    private int lowMark = 100;
    private int lot = 1;
    private final int[] tape = new int[MOST_BYTES];
    private int tapeLength;
    private final Shelf warranties = new Shelf();
    private final Shelf freeings = new Shelf();
    private final Judge verdict = new Judge();
    private final Freeing freeing = new Freeing();
    private final Diary diary = new Diary();
    private final int[] lookedAt = new int[TEN];
    /** Which homes have the kind that is being asked for; filled anew by each such call. */
    private final boolean[] withKind = new boolean[MOST_HOMES];

    public SnagBook() {
    }

    // ---- homes

    public int days(int n) {
        if (n < 1 || n > 360 || today + n > LAST_DAY) {
            return NONE;
        }
        today += n;
        return today;
    }

    public int home(int where, int ground, int batch) {
        boolean sound = isIn(where, STREETS * PLOTS) && isIn(ground, HEIGHTS) && isIn(batch, TEN);
        if (!sound) {
            return NONE;
        }
        if (homeCount >= MOST_HOMES) {
            return FULL;
        }
        homes[homeCount] = new Home(where / PLOTS, where % PLOTS, ground, batch);
        homeCount++;
        return homeCount - 1;
    }

    public int key(int home, int kept) {
        Home h = homeAt(home);
        if (h == null || !isIn(kept, MOST_KEPT + 1)) {
            return NONE;
        }
        if (h.hasKey()) {
            return STATE;
        }
        h.keyDay = today;
        h.kept = kept;
        return 1;
    }

    public int sell(int home) {
        Home h = homeAt(home);
        if (h == null) {
            return NONE;
        }
        if (!h.hasKey()) {
            return STATE;
        }
        return h.addSale(today) ? h.sales : FULL;
    }

    public int in(int home, int bits) {
        Home h = homeAt(home);
        if (h == null || !isIn(bits, 1 << WEEK)) {
            return NONE;
        }
        int before = h.inBits;
        h.inBits = bits;
        return before;
    }

    public int crew(int home, int trade, int crew) {
        Home h = homeAt(home);
        if (h == null || !isIn(trade, TEN) || (crew != -1 && !isIn(crew, TEN))) {
            return NO_VALUE;
        }
        int before = h.crewOf(trade);
        h.crews[trade] = crew;
        return before;
    }

    public int ofHome(int home, int what) {
        Home h = homeAt(home);
        if (h == null) {
            return NONE;
        }
        switch (what) {
            case 0: return h.street;
            case 1: return h.plot;
            case 2: return h.ground;
            case 3: return h.batch;
            case 4: return h.keyDay;
            case 5: return h.sales;
            case 6: return toldIn(h);
            case 7: return leftIn(h);
            case 8: return falseIn(h);
            case 9: return brokenIn(h);
            case 10: return h.kept;
            case 11: return h.freed;
            case 12: return h.taken;
            default: return NONE;
        }
    }

    // ---- faults

    public int kind(int trade, int rate, int flags) {
        if (!isIn(trade, TEN) || rate < 1 || rate > 999 || !isIn(flags, 8)) {
            return NONE;
        }
        if (kindCount >= MOST_KINDS) {
            return FULL;
        }
        kinds[kindCount] = new Kind(trade, rate, flags);
        kindCount++;
        return kindCount - 1;
    }

    public int fault(int where, int kind, int severity, int eye) {
        Home h = where < 0 ? null : homeAt(where / ROOMS);
        Kind k = kindAt(kind);
        if (h == null || k == null || severity < 1 || severity > 9 || !isIn(eye, BUYER + 1)) {
            return NONE;
        }
        if (faultCount >= MOST_FAULTS) {
            return FULL;
        }
        Fault f = new Fault(faultCount, h, where % ROOMS, kind, k, severity, eye);
        f.tell(today, isToldBefore(f));
        faults[faultCount] = f;
        faultCount++;
        return faultCount - 1;
    }

    public int promise(int fault, int day) {
        Fault f = faultAt(fault);
        if (f == null || day < today || day > LAST_DAY) {
            return NONE;
        }
        if (!f.isWaiting()) {
            return STATE;
        }
        if (f.history.isFull()) {
            return FULL;
        }
        f.promiseAnew(day, today);
        return 1;
    }

    public int said(int fault, int crew) {
        Fault f = faultAt(fault);
        if (f == null || !isIn(crew, TEN)) {
            return NONE;
        }
        if (!f.isWaiting()) {
            return STATE;
        }
        if (f.history.isFull()) {
            return FULL;
        }
        f.saidBy(crew, today);
        return 1;
    }

    public int look(int fault, int good) {
        Fault f = faultAt(fault);
        if (f == null || !isIn(good, 2)) {
            return NONE;
        }
        if (f.history.now() != SAID) {
            return STATE;
        }
        if (f.history.isFull()) {
            return FULL;
        }
        if (isIn(f.lastCrew(), TEN)) {
            lookedAt[f.lastCrew()]++;
        }
        f.history.add(good == 1 ? CLOSED : OPEN, today, NONE);
        return 1;
    }

    public int voids(int fault) {
        Fault f = faultAt(fault);
        if (f == null) {
            return NONE;
        }
        if (!f.isWaiting()) {
            return STATE;
        }
        if (f.history.isFull()) {
            return FULL;
        }
        f.endWith(VOID, today);
        return 1;
    }

    public int state(int fault, int day) {
        Fault f = faultAt(fault);
        if (f == null || !isDay(day)) {
            return NONE;
        }
        return f.history.onDay(day);
    }

    public int ofFault(int fault, int what) {
        Fault f = faultAt(fault);
        if (f == null) {
            return NONE;
        }
        switch (what) {
            case 0: return homeNumber(f.home);
            case 1: return f.room;
            case 2: return f.kindNumber;
            case 3: return f.severity;
            case 4: return f.day;
            case 5: return f.eye;
            case 6: return f.listed ? 1 : 0;
            case 7: return f.isNew ? 1 : 0;
            case 8: return f.price();
            case 9: return f.promiseOn(today);
            case 10: return f.moved;
            case 11: return f.history.timesSaid(NONE);
            case 12: return f.history.timesFalse(NONE);
            case 13: return f.lastCrew();
            default: return NONE;
        }
    }

    public int source(int fault, int day) {
        Fault f = faultAt(fault);
        if (f == null || !isDay(day) || f.day > day) {
            return NONE;
        }
        // Each leak is one floor higher, so the chain has no more links than there are floors.
        for (int floor = 0; floor <= TOP_FLOOR && f.kind.has(STAIN); floor++) {
            Fault leak = leakAbove(f, day);
            if (leak == null) {
                return f.number;
            }
            f = leak;
        }
        return f.number;
    }

    public int damage(int fault) {
        Fault f = faultAt(fault);
        if (f == null) {
            return NONE;
        }
        Fault doer = damager(f);
        return doer == null ? NOT : doer.number;
    }

    public int rule(int what, int v) {
        int before = NONE;
        if (what == 0 && isIn(v, MOST_SPAN + 1)) {
            before = span;
            span = v;
        } else if (what == 1 && isIn(v, HEIGHTS)) {
            before = lowMark;
            lowMark = v;
        }
        return before;
    }

    // ---- causes

    public int joined(int kind, int group, int day, int what) {
        Kind k = kindAt(kind);
        if (k == null || !isGroup(group) || !isDay(day) || !isIn(what, 3)) {
            return NONE;
        }
        int with = markHomesWith(k, day);
        if (what == 0) {
            return with;
        }
        return what == 1 ? sizeOfGroup(k, group, true) : sizeOfGroup(k, group, false);
    }

    public int chance(int kind, int group, int day) {
        Kind k = kindAt(kind);
        if (k == null || !isGroup(group) || !isDay(day)) {
            return NONE;
        }
        int with = markHomesWith(k, day);
        return chanceOf(k, group, with);
    }

    public int cause(int kind, int day, int p) {
        Kind k = kindAt(kind);
        if (k == null || !isDay(day) || p < 1 || p > 9999) {
            return NONE;
        }
        return likeliestGroup(k, markHomesWith(k, day), p);
    }

    public int rivals(int kind, int day, int p) {
        Kind k = kindAt(kind);
        if (k == null || !isDay(day) || p < 1 || p > 9999) {
            return NONE;
        }
        int with = markHomesWith(k, day);
        int found = likeliestGroup(k, with, p);
        if (found == NOT) {
            return NOT;
        }
        int others = 0;
        for (int group = 0; group <= LOW_GROUP; group++) {
            if (isGroup(group) && chanceOf(k, group, with) < p && !areSameHomes(k, group, found)) {
                others++;
            }
        }
        return others;
    }

    // ---- gauges

    public int read(int fault, int width) {
        Fault f = faultAt(fault);
        if (f == null || f.gauge == null || !isIn(width, 10000)) {
            return NONE;
        }
        if (f.gauge.lastDay() == today) {
            return STATE;
        }
        return f.gauge.add(today, width) ? f.gauge.size : FULL;
    }

    public int gauge(int fault, int day) {
        Fault f = faultAt(fault);
        if (f == null || f.gauge == null || !isDay(day)) {
            return NONE;
        }
        return f.gauge.says(day);
    }

    public int pace(int fault, int i) {
        Fault f = faultAt(fault);
        if (f == null || f.gauge == null || i < 0 || i >= f.gauge.size - 1) {
            return NO_VALUE;
        }
        return f.gauge.paceAt(i);
    }

    public int sinking(int street, int what) {
        if (!isIn(street, STREETS) || !isIn(what, 3)) {
            return NONE;
        }
        int many = 0;
        int least = NONE;
        int greatest = NONE;
        for (int i = 0; i < homeCount; i++) {
            Home h = homes[i];
            if (h.street == street && isSinking(h)) {
                least = many == 0 ? h.plot : Math.min(least, h.plot);
                greatest = Math.max(greatest, h.plot);
                many++;
            }
        }
        if (what == 0) {
            return many;
        }
        return what == 1 ? least : greatest;
    }

    // ---- the diary

    public int men(int trade, int n) {
        if (!isIn(trade, TEN) || !isIn(n, 10)) {
            return NONE;
        }
        int before = diary.men[trade];
        diary.men[trade] = n;
        return before;
    }

    public int job(int fault) {
        Fault f = faultAt(fault);
        if (f == null) {
            return NONE;
        }
        if (f.history.now() != PROMISED || diary.has(f)) {
            return STATE;
        }
        return diary.add(f) ? diary.size : FULL;
    }

    public int plan(int d) {
        if (d < 1 || d > Diary.MOST_DAYS) {
            return NONE;
        }
        if (diary.size == 0) {
            return STATE;
        }
        return diary.settle(today, Math.min(d, LAST_DAY - today + 1));
    }

    public int planned(int i) {
        return isIn(i, diary.settledSize) ? diary.settledDays[i] : NONE;
    }

    // ---- texts

    public int feed(int n, int v) {
        if (n < 1 || n > 4) {
            return NONE;
        }
        if (tapeLength + n > MOST_BYTES) {
            return FULL;
        }
        for (int i = 0; i < n; i++) {
            tape[tapeLength] = (v >>> (8 * i)) & 255;
            tapeLength++;
        }
        return tapeLength;
    }

    public int text(int what, int day) {
        if (!isIn(what, 2) || !isDay(day)) {
            return NONE;
        }
        Shelf shelf = what == 0 ? warranties : freeings;
        if (shelf.isFull()) {
            return FULL;
        }
        int length = tapeLength;
        tapeLength = 0;
        int wrong = what == 0 ? Judge.faultIn(tape, length) : Freeing.faultIn(tape, length);
        if (wrong != NONE) {
            return -100 - wrong;
        }
        return shelf.add(new Text(Arrays.copyOf(tape, length), today, day));
    }

    public int inForce(int what, int home, int k) {
        Home h = homeAt(home);
        if (!isIn(what, 2) || h == null || !isDay(k) || !h.hasKey()) {
            return NONE;
        }
        return what == 0 ? warranties.holding(h, k) : freeings.holding(h, k);
    }

    public int judge(int fault, int what) {
        Fault f = faultAt(fault);
        if (f == null || !isIn(what, 4)) {
            return NONE;
        }
        decide(f);
        switch (what) {
            case 0: return verdict.who;
            case 1: return verdict.ownerPays;
            case 2: return verdict.whoPays;
            default: return verdict.line;
        }
    }

    public int free(int home) {
        Home h = homeAt(home);
        if (h == null) {
            return NONE;
        }
        if (!h.hasKey()) {
            return STATE;
        }
        Text t = freeings.at(freeings.holding(h, today));
        int given = 0;
        if (t != null) {
            freeing.setFacts(leftIn(h), today - h.keyDay, falseIn(h), brokenIn(h), h.kept);
            given = freeing.gives(t);
        }
        int freed = Math.max(0, Math.min(given, h.kept));
        h.kept -= freed;
        h.freed += freed;
        return freed;
    }

    public int take(int fault) {
        Fault f = faultAt(fault);
        if (f == null) {
            return NONE;
        }
        if (!f.isWaiting() || f.history.isFull()) {
            return STATE;
        }
        decide(f);
        int part = verdict.whoPays;
        if (verdict.who != Judge.BUILDER || part > f.home.kept) {
            return STATE;
        }
        f.home.kept -= part;
        f.home.taken += part;
        f.endWith(CLOSED, today);
        return part;
    }

    // ---- eyes, looks

    public int doubles(int a, int b, int what) {
        if (!isIn(a, TEN) || !isIn(b, TEN) || a == b || !isIn(what, 6)) {
            return NO_VALUE;
        }
        switch (what) {
            case 0: return doubleHomes(a, b);
            case 1: return toldByOne(a, b, true);
            case 2: return toldByOne(a, b, false);
            case 3: return toldByOne(b, a, false);
            case 4: return missed(a, b);
            default: return harsh(a, b);
        }
    }

    public int lots(int z) {
        lot = z;
        return 1;
    }

    public int draw(int crew) {
        if (!isIn(crew, TEN)) {
            return NONE;
        }
        int many = 0;
        for (int i = 0; i < faultCount; i++) {
            many += faults[i].isSaidNowBy(crew) ? 1 : 0;
        }
        if (many == 0) {
            return NOT;
        }
        lot = lot * 1103515245 + 12345;
        int left = (lot >>> 8) % many;
        for (int i = 0; i < faultCount; i++) {
            if (faults[i].isSaidNowBy(crew)) {
                if (left == 0) {
                    return i;
                }
                left--;
            }
        }
        return NOT;
    }

    public int ofCrew(int crew, int what) {
        if (!isIn(crew, TEN)) {
            return NONE;
        }
        switch (what) {
            case 0: return saidBy(crew);
            case 1: return lookedAt[crew];
            case 2: return falseBy(crew);
            case 3: return chargedTo(crew);
            default: return NONE;
        }
    }

    public int bounds(int crew, int p, int what) {
        if (!isIn(crew, TEN) || p < 1 || p > 49 || !isIn(what, 2)) {
            return NONE;
        }
        int all = saidBy(crew);
        if (all > MOST_SAID_IN_BOUNDS) {
            return BIG;
        }
        int looks = lookedAt[crew];
        int found = falseBy(crew);
        return what == 0 ? Odds.leastFalse(all, looks, found, p) : Odds.greatestFalse(all, looks, found, p);
    }

    // ---- streets

    public int worst(int i, int day) {
        if (!isIn(i, STREETS) || !isDay(day)) {
            return NONE;
        }
        for (int street = 0; street < STREETS; street++) {
            if (placeOf(street, day) == i) {
                return street;
            }
        }
        return NONE;
    }

    public int weight(int street, int day) {
        if (!isIn(street, STREETS) || !isDay(day)) {
            return NONE;
        }
        return weightOf(street, day);
    }

    public int count(int what) {
        switch (what) {
            case 0: return homeCount;
            case 1: return kindCount;
            case 2: return faultCount;
            case 3: return today;
            case 4: return warranties.size;
            case 5: return freeings.size;
            case 6: return tapeLength;
            case 7: return diary.size;
            case 8: case 9: case 10: case 11: return sumOfHomes(what);
            default: return NONE;
        }
    }

    // ---- what the calls share

    private static boolean isIn(int v, int below) {
        return v >= 0 && v < below;
    }

    private static boolean isDay(int day) {
        return isIn(day, LAST_DAY + 1);
    }

    private static boolean isGroup(int group) {
        return isIn(group, STREETS) || (group >= TEN && group <= LOW_GROUP);
    }

    private Home homeAt(int i) {
        return isIn(i, homeCount) ? homes[i] : null;
    }

    private Kind kindAt(int i) {
        return isIn(i, kindCount) ? kinds[i] : null;
    }

    private Fault faultAt(int i) {
        return isIn(i, faultCount) ? faults[i] : null;
    }

    private int homeNumber(Home h) {
        for (int i = 0; i < homeCount; i++) {
            if (homes[i] == h) {
                return i;
            }
        }
        return NONE;
    }

    private int toldIn(Home h) {
        int sum = 0;
        for (int i = 0; i < faultCount; i++) {
            sum += faults[i].home == h ? 1 : 0;
        }
        return sum;
    }

    private int leftIn(Home h) {
        int sum = 0;
        for (int i = 0; i < faultCount; i++) {
            sum += faults[i].home == h && faults[i].isLeftOn(today) ? 1 : 0;
        }
        return sum;
    }

    private int falseIn(Home h) {
        int sum = 0;
        for (int i = 0; i < faultCount; i++) {
            sum += faults[i].home == h ? faults[i].history.timesFalse(NONE) : 0;
        }
        return sum;
    }

    private int brokenIn(Home h) {
        int sum = 0;
        for (int i = 0; i < faultCount; i++) {
            sum += faults[i].home == h ? faults[i].brokenBy(today) : 0;
        }
        return sum;
    }

    private int saidBy(int crew) {
        int sum = 0;
        for (int i = 0; i < faultCount; i++) {
            sum += faults[i].history.timesSaid(crew);
        }
        return sum;
    }

    private int falseBy(int crew) {
        int sum = 0;
        for (int i = 0; i < faultCount; i++) {
            sum += faults[i].history.timesFalse(crew);
        }
        return sum;
    }

    private int chargedTo(int crew) {
        int sum = 0;
        for (int i = 0; i < faultCount; i++) {
            sum += chargedCrew(faults[i]) == crew ? 1 : 0;
        }
        return sum;
    }

    private int sumOfHomes(int what) {
        int sum = 0;
        for (int i = 0; i < homeCount; i++) {
            Home h = homes[i];
            switch (what) {
                case 8: sum += h.kept; break;
                case 9: sum += h.freed; break;
                case 10: sum += h.taken; break;
                default: sum += h.hasKey() ? 1 : 0; break;
            }
        }
        return sum;
    }

    /** Asked while it is told, so what the earlier ones are now is what they are by then. */
    private boolean isToldBefore(Fault f) {
        for (int i = 0; i < faultCount; i++) {
            Fault g = faults[i];
            int state = g.isSameThing(f) ? g.history.now() : VOID;
            if (state != VOID && (g.listed || state != CLOSED)) {
                return true;
            }
        }
        return false;
    }

    private Fault leakAbove(Fault f, int day) {
        for (int i = 0; i < faultCount; i++) {
            Fault g = faults[i];
            boolean above = g.home == f.home && g.room == f.room + ROOMS_OF_FLOOR;
            if (above && g.kind.has(LEAKS) && g.isLeftOn(day)) {
                return g;
            }
        }
        return null;
    }

    private Fault damager(Fault f) {
        Fault doer = null;
        int latest = NONE;
        for (int i = 0; i < faultCount; i++) {
            Fault g = faults[i];
            if (g.home == f.home && g.room == f.room && g.kindNumber != f.kindNumber) {
                int day = g.history.dayAt(saidAheadOf(f, g));
                if (day != NONE && day >= latest) {
                    latest = day;
                    doer = g;
                }
            }
        }
        return doer;
    }

    private int saidAheadOf(Fault f, Fault g) {
        return g.history.lastSaid(f.day - span, f.day - 1);
    }

    private int chargedCrew(Fault f) {
        Fault doer = damager(f);
        return doer == null ? NOT : doer.history.crewAt(saidAheadOf(f, doer));
    }

    private int markHomesWith(Kind k, int day) {
        int many = 0;
        for (int i = 0; i < homeCount; i++) {
            withKind[i] = hasKind(homes[i], k, day);
            many += withKind[i] ? 1 : 0;
        }
        return many;
    }

    private boolean hasKind(Home h, Kind k, int day) {
        for (int i = 0; i < faultCount; i++) {
            Fault f = faults[i];
            if (f.home == h && f.kind == k) {
                int then = f.history.onDay(day);
                if (then != NOT && then != VOID) {
                    return true;
                }
            }
        }
        return false;
    }

    private boolean isOfGroup(Home h, Kind k, int group) {
        int number = group % TEN;
        switch (group / TEN) {
            case 0: return h.street == number;
            case 1: return h.crewOf(k.trade) == number;
            case 2: return h.batch == number;
            default: return h.ground < lowMark;
        }
    }

    private int sizeOfGroup(Kind k, int group, boolean onlyWithKind) {
        int many = 0;
        for (int i = 0; i < homeCount; i++) {
            if (isOfGroup(homes[i], k, group) && (withKind[i] || !onlyWithKind)) {
                many++;
            }
        }
        return many;
    }

    private int chanceOf(Kind k, int group, int with) {
        int size = sizeOfGroup(k, group, false);
        int hit = sizeOfGroup(k, group, true);
        return Odds.chanceOfMany(homeCount, with, size, hit);
    }

    private int likeliestGroup(Kind k, int with, int p) {
        int found = NOT;
        int least = p;
        for (int group = 0; group <= LOW_GROUP; group++) {
            int c = isGroup(group) ? chanceOf(k, group, with) : p;
            if (c < least) {
                least = c;
                found = group;
            }
        }
        return found;
    }

    private boolean areSameHomes(Kind k, int group, int other) {
        for (int i = 0; i < homeCount; i++) {
            if (isOfGroup(homes[i], k, group) != isOfGroup(homes[i], k, other)) {
                return false;
            }
        }
        return true;
    }

    private boolean isSinking(Home h) {
        for (int i = 0; i < faultCount; i++) {
            Fault f = faults[i];
            if (f.home == h && f.isLeftOn(today) && f.gaugeSays(today) == MOVING_GROUND) {
                return true;
            }
        }
        return false;
    }

    private void decide(Fault f) {
        if (f.isAheadOfKey()) {
            verdict.builderPaysAll(f.price());
            return;
        }
        Text t = warranties.at(warranties.holding(f.home, today));
        if (t == null) {
            verdict.ownerPaysAll(f.price());
            return;
        }
        int charged = chargedCrew(f);
        int[] facts = verdict.facts;
        facts[0] = (f.day - f.home.keyDay) / 360;
        facts[1] = f.kindNumber;
        facts[2] = f.kind.trade;
        facts[3] = f.severity;
        facts[4] = f.isNew ? 1 : 0;
        facts[5] = f.home.salesBy(f.day);
        facts[6] = f.gaugeSays(today);
        facts[7] = charged == NOT ? 0 : 1;
        facts[8] = f.room / ROOMS_OF_FLOOR;
        int crew = charged == NOT ? f.home.crewOf(f.kind.trade) : charged;
        verdict.decideBy(t, f.price(), crew);
    }

    private boolean hasListed(Home h, int eye) {
        for (int i = 0; i < faultCount; i++) {
            if (faults[i].home == h && faults[i].isListedBy(eye)) {
                return true;
            }
        }
        return false;
    }

    private boolean areDoubles(Home h, int a, int b) {
        return hasListed(h, a) && hasListed(h, b);
    }

    private int doubleHomes(int a, int b) {
        int many = 0;
        for (int i = 0; i < homeCount; i++) {
            many += areDoubles(homes[i], a, b) ? 1 : 0;
        }
        return many;
    }

    private Fault firstListed(Fault like, int eye) {
        for (int i = 0; i < faultCount; i++) {
            if (faults[i].isListedBy(eye) && faults[i].isSameThing(like)) {
                return faults[i];
            }
        }
        return null;
    }

    /** Rooms and kinds that the one told in homes with both: those that the other told, too, or those it didn't. */
    private int toldByOne(int one, int other, boolean byBoth) {
        int many = 0;
        for (int i = 0; i < faultCount; i++) {
            Fault f = faults[i];
            boolean first = f.isListedBy(one) && firstListed(f, one) == f;
            if (first && areDoubles(f.home, one, other) && (firstListed(f, other) != null) == byBoth) {
                many++;
            }
        }
        return many;
    }

    private int missed(int a, int b) {
        int alone = toldByOne(b, a, false);
        int told = alone + toldByOne(b, a, true);
        return told == 0 ? 0 : 10000 * alone / told;
    }

    private int harsh(int a, int b) {
        int sum = 0;
        for (int i = 0; i < faultCount; i++) {
            Fault f = faults[i];
            boolean first = f.isListedBy(a) && firstListed(f, a) == f;
            Fault g = first ? firstListed(f, b) : null;
            sum += g == null ? 0 : f.severity - g.severity;
        }
        return sum;
    }

    private int weightOf(int street, int day) {
        int sum = 0;
        for (int i = 0; i < faultCount; i++) {
            Fault f = faults[i];
            sum += f.home.street == street && f.isLeftOn(day) ? f.severity : 0;
        }
        return sum;
    }

    private int placeOf(int street, int day) {
        int own = weightOf(street, day);
        int place = 0;
        for (int s = 0; s < STREETS; s++) {
            int w = weightOf(s, day);
            place += w > own || (w == own && s < street) ? 1 : 0;
        }
        return place;
    }

    private static boolean isDigit(int c) {
        return c >= '0' && c <= '9';
    }

    private static final class Home {
        final int street;
        final int plot;
        final int ground;
        final int batch;
        int keyDay = NONE;
        int inBits = (1 << WEEK) - 1;
        int kept;
        int freed;
        int taken;
        int sales;
        private final int[] saleDays = new int[MOST_SALES];
        final int[] crews = new int[TEN];

        Home(int street, int plot, int ground, int batch) {
            this.street = street;
            this.plot = plot;
            this.ground = ground;
            this.batch = batch;
            Arrays.fill(crews, NONE);
        }

        boolean hasKey() {
            return keyDay != NONE;
        }

        boolean isInOn(int day) {
            return ((inBits >> (day % WEEK)) & 1) == 1;
        }

        int crewOf(int trade) {
            return isIn(trade, TEN) ? crews[trade] : NONE;
        }

        boolean addSale(int day) {
            if (sales >= MOST_SALES) {
                return false;
            }
            saleDays[sales] = day;
            sales++;
            return true;
        }

        int salesBy(int day) {
            int many = 0;
            for (int i = 0; i < sales; i++) {
                many += saleDays[i] <= day ? 1 : 0;
            }
            return many;
        }
    }

    private static final class Kind {
        final int trade;
        final int rate;
        private final int flags;

        Kind(int trade, int rate, int flags) {
            this.trade = trade;
            this.rate = rate;
            this.flags = flags;
        }

        boolean has(int flag) {
            return (flags & flag) != 0;
        }
    }

    /** The states of one fault, each with the day on which it came and the crew that said it. */
    private static final class History {
        private static final int MOST = 30;
        private final int[] days = new int[MOST];
        private final int[] states = new int[MOST];
        private final int[] crews = new int[MOST];
        private int size;

        boolean isFull() {
            return size >= MOST;
        }

        void add(int state, int day, int crew) {
            if (size < MOST) {
                states[size] = state;
                days[size] = day;
                crews[size] = crew;
                size++;
            }
        }

        int now() {
            return size == 0 ? NOT : states[size - 1];
        }

        int onDay(int day) {
            int then = NOT;
            for (int i = 0; i < size && days[i] <= day; i++) {
                then = states[i];
            }
            return then;
        }

        /** The place of the last SAID between two days, both counted. */
        int lastSaid(int from, int to) {
            for (int i = size - 1; i >= 0; i--) {
                if (states[i] == SAID && days[i] >= from && days[i] <= to) {
                    return i;
                }
            }
            return NONE;
        }

        int dayAt(int i) {
            return isIn(i, size) ? days[i] : NONE;
        }

        int crewAt(int i) {
            return isIn(i, size) ? crews[i] : NONE;
        }

        /** By one crew, or by all (NONE). */
        int timesSaid(int crew) {
            int many = 0;
            for (int i = 0; i < size; i++) {
                many += isSaidAt(i, crew) ? 1 : 0;
            }
            return many;
        }

        /** Only a look comes behind a SAID, so one that is OPEN behind it was found false. */
        int timesFalse(int crew) {
            int many = 0;
            for (int i = 0; i + 1 < size; i++) {
                many += isSaidAt(i, crew) && states[i + 1] == OPEN ? 1 : 0;
            }
            return many;
        }

        private boolean isSaidAt(int i, int crew) {
            return states[i] == SAID && (crew == NONE || crews[i] == crew);
        }
    }

    /** The readings of one crack. */
    private static final class Gauge {
        private static final int MOST = 12;
        private final int[] days = new int[MOST];
        private final int[] widths = new int[MOST];
        int size;

        int lastDay() {
            return size == 0 ? NONE : days[size - 1];
        }

        boolean add(int day, int width) {
            if (size >= MOST) {
                return false;
            }
            days[size] = day;
            widths[size] = width;
            size++;
            return true;
        }

        int paceAt(int i) {
            if (!isIn(i, size - 1)) {
                return NO_VALUE;
            }
            int between = days[i + 1] - days[i];
            return between == 0 ? 0 : (widths[i + 1] - widths[i]) * 1000 / between;
        }

        int says(int day) {
            int many = 0;
            while (many < size && days[many] <= day) {
                many++;
            }
            if (many < 3) {
                return 0;
            }
            if (isDrying(many - 1)) {
                return DRYING;
            }
            return swings(many - 1) || quickens(many - 1) ? MOVING_GROUND : 0;
        }

        private boolean isDrying(int paces) {
            for (int i = 0; i < paces; i++) {
                if (paceAt(i) < 0 || (i > 0 && paceAt(i) > paceAt(i - 1))) {
                    return false;
                }
            }
            return paceAt(paces - 1) * 4L <= paceAt(0);
        }

        private boolean swings(int paces) {
            boolean wetUp = false;
            boolean wetDown = false;
            boolean dryUp = false;
            boolean dryDown = false;
            for (int i = 0; i < paces; i++) {
                int p = paceAt(i);
                boolean wet = days[i + 1] / 30 % 12 < 6;
                wetUp |= wet && p > 0;
                wetDown |= wet && p < 0;
                dryUp |= !wet && p > 0;
                dryDown |= !wet && p < 0;
            }
            return (wetUp && dryDown) || (wetDown && dryUp);
        }

        private boolean quickens(int paces) {
            int last = paceAt(paces - 1);
            return last > paceAt(0) && last > 0;
        }
    }

    private static final class Fault {
        final int number;
        final Home home;
        final int room;
        final int kindNumber;
        final Kind kind;
        final int severity;
        final int eye;
        final History history = new History();
        /** Only a crack has one. */
        final Gauge gauge;
        int day;
        boolean listed;
        boolean isNew;
        int promiseDay = NONE;
        private int promiseIs = NO_PROMISE;
        private int brokenBefore;
        int moved;

        Fault(int number, Home home, int room, int kindNumber, Kind kind, int severity, int eye) {
            this.number = number;
            this.home = home;
            this.room = room;
            this.kindNumber = kindNumber;
            this.kind = kind;
            this.severity = severity;
            this.eye = eye;
            this.gauge = kind.has(CRACK) ? new Gauge() : null;
        }

        /** What is kept here is a matter of the telling: what comes behind it on the same day changes none of it. */
        void tell(int today, boolean toldBefore) {
            day = today;
            listed = !home.hasKey() || today <= home.keyDay;
            isNew = !listed && !toldBefore;
            history.add(OPEN, today, NONE);
        }

        /** By the days alone: one told on the key day is not, whichever of the two came first that day. */
        boolean isAheadOfKey() {
            return !home.hasKey() || day < home.keyDay;
        }

        boolean isWaiting() {
            return history.now() == OPEN || history.now() == PROMISED;
        }

        boolean isLeftOn(int then) {
            int state = history.onDay(then);
            return state != NOT && state != CLOSED && state != VOID;
        }

        boolean isSameThing(Fault other) {
            return home == other.home && room == other.room && kindNumber == other.kindNumber;
        }

        boolean isListedBy(int by) {
            return listed && eye == by;
        }

        boolean isSaidNowBy(int crew) {
            return history.now() == SAID && lastCrew() == crew;
        }

        int lastCrew() {
            return history.crewAt(history.lastSaid(0, LAST_DAY));
        }

        int price() {
            int plain = kind.rate * severity;
            return room / ROOMS_OF_FLOOR == TOP_FLOOR ? plain + (plain + 1) / 2 : plain;
        }

        int gaugeSays(int then) {
            return gauge == null ? 0 : gauge.says(then);
        }

        int promiseOn(int today) {
            return promiseIs == RUNNING && today > promiseDay ? BROKEN : promiseIs;
        }

        int brokenBy(int today) {
            return brokenBefore + (promiseOn(today) == BROKEN ? 1 : 0);
        }

        void promiseAnew(int until, int today) {
            brokenBefore = brokenBy(today);
            moved += promiseOn(today) == RUNNING ? 1 : 0;
            promiseIs = RUNNING;
            promiseDay = until;
            history.add(PROMISED, today, NONE);
        }

        void saidBy(int crew, int today) {
            promiseIs = promiseOn(today) == RUNNING ? KEPT : promiseOn(today);
            history.add(SAID, today, crew);
        }

        /** VOID, or closed by coin taken: nobody will say the work done, so a running promise is none any more. */
        void endWith(int state, int today) {
            promiseIs = promiseOn(today) == RUNNING ? NO_PROMISE : promiseOn(today);
            history.add(state, today, NONE);
        }
    }

    private static final class Text {
        private final int[] bytes;
        final int made;
        final int from;

        Text(int[] bytes, int made, int from) {
            this.bytes = bytes;
            this.made = made;
            this.from = from;
        }

        int length() {
            return bytes.length;
        }

        int at(int i) {
            return i >= 0 && i < bytes.length ? bytes[i] : NONE;
        }
    }

    /** The texts of one sort, as they were made. */
    private static final class Shelf {
        private final Text[] texts = new Text[TEN];
        int size;

        boolean isFull() {
            return size >= TEN;
        }

        int add(Text t) {
            if (size >= TEN) {
                return FULL;
            }
            texts[size] = t;
            size++;
            return size - 1;
        }

        Text at(int i) {
            return isIn(i, size) ? texts[i] : null;
        }

        int holding(Home h, int known) {
            for (int i = size - 1; i >= 0; i--) {
                if (texts[i].made <= known && texts[i].from <= h.keyDay) {
                    return i;
                }
            }
            return NOT;
        }
    }

    /** Reads warranties: where one is wrong, and who pays by one. */
    private static final class Judge {
        static final int BUILDER = 0;
        private static final int WARRANTY = 1;
        private static final int OWNER = 2;
        private static final int NOBODY = 3;
        private static final int FIRST_CREW = 10;
        private static final String NAMES = "yktsnogdf";
        private static final String SIGNS = "<=!+";
        private static final String PAYERS = "bwhcv";
        private static final int MOST_DIGITS = 4;

        private static final int LINE_START = 0;
        private static final int WANTS_NAME = 1;
        private static final int WANTS_SIGN = 2;
        private static final int WANTS_NUMBER = 3;
        private static final int IN_NUMBER = 4;
        private static final int WANTS_PAYER = 5;
        private static final int IN_EXCESS = 6;
        private static final int WRONG = 7;

        /** What the names stand for, in the order of NAMES. */
        final int[] facts = new int[9];
        int who;
        int ownerPays;
        int whoPays;
        int line;
        private Text text;
        private int place;
        private int payer;
        private int excess;

        static int faultIn(int[] tape, int length) {
            int phase = LINE_START;
            int digits = 0;
            for (int i = 0; i < length && i < tape.length; i++) {
                boolean digit = isDigit(tape[i]);
                if (digit && digits >= MOST_DIGITS) {
                    return i;
                }
                phase = nextPhase(phase, tape[i]);
                if (phase == WRONG) {
                    return i;
                }
                digits = digit ? digits + 1 : 0;
            }
            return length > 0 && phase == LINE_START ? NONE : length;
        }

        private static int nextPhase(int phase, int c) {
            switch (phase) {
                case LINE_START:
                    return c == '>' ? WANTS_PAYER : nextPhaseIf(NAMES, c, WANTS_SIGN);
                case WANTS_NAME:
                    return nextPhaseIf(NAMES, c, WANTS_SIGN);
                case WANTS_SIGN:
                    return nextPhaseIf(SIGNS, c, WANTS_NUMBER);
                case WANTS_NUMBER:
                    return isDigit(c) ? IN_NUMBER : WRONG;
                case IN_NUMBER:
                    if (c == '&') {
                        return WANTS_NAME;
                    }
                    if (c == '>') {
                        return WANTS_PAYER;
                    }
                    return isDigit(c) ? IN_NUMBER : WRONG;
                case WANTS_PAYER:
                    return nextPhaseIf(PAYERS, c, IN_EXCESS);
                case IN_EXCESS:
                    if (c == ';') {
                        return LINE_START;
                    }
                    return isDigit(c) ? IN_EXCESS : WRONG;
                default:
                    return WRONG;
            }
        }

        private static int nextPhaseIf(String these, int c, int next) {
            return these.indexOf((char) c) >= 0 ? next : WRONG;
        }

        void builderPaysAll(int price) {
            set(BUILDER, 0, price, NONE);
        }

        void ownerPaysAll(int price) {
            set(OWNER, price, 0, NONE);
        }

        /** The crew is the one that pays where a line says so; without one the builder does. */
        void decideBy(Text t, int price, int crew) {
            text = t;
            if (!findLine()) {
                ownerPaysAll(price);
                return;
            }
            int own = Math.min(excess, price);
            switch (payer) {
                case 'b': set(BUILDER, own, price - own, line); break;
                case 'w': set(WARRANTY, own, price - own, line); break;
                case 'c': set(crew == NONE ? BUILDER : FIRST_CREW + crew, own, price - own, line); break;
                case 'v': set(NOBODY, 0, 0, line); break;
                default: set(OWNER, price, 0, line); break;
            }
        }

        private void set(int payerNumber, int fromOwner, int fromPayer, int byLine) {
            who = payerNumber;
            ownerPays = fromOwner;
            whoPays = fromPayer;
            line = byLine;
        }

        private boolean findLine() {
            place = 0;
            for (line = 0; place < text.length(); line++) {
                boolean holds = readTests();
                payer = text.at(place);
                place++;
                excess = readNumber();
                place++;
                if (holds) {
                    return true;
                }
            }
            return false;
        }

        private boolean readTests() {
            boolean holds = true;
            while (place < text.length() && text.at(place) != '>') {
                int name = NAMES.indexOf((char) text.at(place));
                int sign = text.at(place + 1);
                place += 2;
                int number = readNumber();
                holds = holds && isIn(name, facts.length) && compares(facts[name], sign, number);
                if (text.at(place) == '&') {
                    place++;
                }
            }
            place++;
            return holds;
        }

        private static boolean compares(int v, int sign, int number) {
            switch (sign) {
                case '<': return v < number;
                case '=': return v == number;
                case '!': return v != number;
                default: return v >= number;
            }
        }

        private int readNumber() {
            int number = 0;
            while (place < text.length() && isDigit(text.at(place))) {
                number = number * 10 + (text.at(place) - '0');
                place++;
            }
            return number;
        }
    }

    /** Reads freeings: where one is wrong, and what one gives. */
    private static final class Freeing {
        private static final String NAMES = "qyxbr";
        private static final String SIGNS = "+-*/";
        private static final int MOST_DIGITS = 5;
        private static final int MOST_OPEN = 6;

        private final int[] facts = new int[5];
        private final int[] values = new int[MOST_OPEN + 1];
        private final int[] signs = new int[MOST_OPEN + 1];
        private int depth;

        static int faultIn(int[] tape, int length) {
            int open = 0;
            int digits = 0;
            boolean wantsPart = true;
            boolean tested = false;
            for (int i = 0; i < length && i < tape.length; i++) {
                int c = tape[i];
                if (wantsPart) {
                    if (c == '(' && open < MOST_OPEN) {
                        open++;
                    } else if (isDigit(c) || isName(c)) {
                        digits = isDigit(c) ? 1 : 0;
                        wantsPart = false;
                    } else {
                        return i;
                    }
                } else if (isDigit(c) && digits > 0 && digits < MOST_DIGITS) {
                    digits++;
                } else if (c == ')' && open > 0) {
                    open--;
                    digits = 0;
                } else if (isSign(c) || (open == 0 && (c == ';' || (c == ':' && !tested)))) {
                    wantsPart = true;
                    tested = c == ':' || (tested && c != ';');
                } else {
                    return i;
                }
            }
            return wantsPart || open > 0 ? length : NONE;
        }

        private static boolean isName(int c) {
            return NAMES.indexOf((char) c) >= 0;
        }

        private static boolean isSign(int c) {
            return SIGNS.indexOf((char) c) >= 0;
        }

        void setFacts(int left, int days, int falsely, int broken, int kept) {
            facts[0] = left;
            facts[1] = days;
            facts[2] = falsely;
            facts[3] = broken;
            facts[4] = kept;
        }

        int gives(Text text) {
            boolean counts = true;
            int number = 0;
            startPart();
            for (int i = 0; i < text.length(); i++) {
                int c = text.at(i);
                if (isDigit(c)) {
                    number = number * 10 + (c - '0');
                    if (!isDigit(text.at(i + 1))) {
                        join(number);
                        number = 0;
                    }
                } else if (c == ':') {
                    counts = values[0] != 0;
                    startPart();
                } else if (c == ';') {
                    if (counts) {
                        return values[0];
                    }
                    counts = true;
                    startPart();
                } else {
                    step(c);
                }
            }
            return counts ? values[0] : 0;
        }

        private void startPart() {
            depth = 0;
            startLevel();
        }

        private void startLevel() {
            if (isIn(depth, values.length)) {
                values[depth] = 0;
                signs[depth] = '+';
            }
        }

        private void step(int c) {
            int name = NAMES.indexOf((char) c);
            if (isIn(name, facts.length)) {
                join(facts[name]);
            } else if (c == '(' && depth < MOST_OPEN) {
                depth++;
                startLevel();
            } else if (c == ')' && depth > 0 && depth <= MOST_OPEN) {
                depth--;
                join(values[depth + 1]);
            } else if (isIn(depth, signs.length)) {
                signs[depth] = c;
            }
        }

        private void join(int v) {
            if (isIn(depth, values.length)) {
                values[depth] = workOut(values[depth], signs[depth], v);
            }
        }

        private static int workOut(int a, int sign, int b) {
            switch (sign) {
                case '+': return a + b;
                case '-': return a - b;
                case '*': return a * b;
                default: return b == 0 ? 0 : a / b;
            }
        }
    }

    /** The jobs on the list, and their days. */
    private static final class Diary {
        static final int MOST_DAYS = 14;
        private static final int MOST_JOBS = 7;
        /** 15 answers of each job (14 days, none last): the jobs' answers in order are one number of 7 such digits. */
        private static final int ANSWERS = 15;
        private static final long ONE_DAY = 170859375L;
        /** The sum of days is 91 at most, the jobs without a day are 7, so each has its own digits of the price. */
        private static final long ONE_WITHOUT = ONE_DAY * 128;
        private static final long ONE_BROKEN = ONE_WITHOUT * 8;
        private static final long NO_WAY = ONE_BROKEN * 1000;

        final int[] men = new int[TEN];
        private final Fault[] jobs = new Fault[MOST_JOBS];
        int size;
        final int[] settledDays = new int[MOST_JOBS];
        int settledSize;
        /** By sets of jobs: the least price of giving days to just these; the price of all these on one day. */
        private final long[] least = new long[1 << MOST_JOBS];
        private final long[] onDay = new long[1 << MOST_JOBS];
        private final boolean[] hasMen = new boolean[1 << MOST_JOBS];

        Diary() {
            Arrays.fill(men, 1);
        }

        boolean has(Fault f) {
            for (int i = 0; i < size; i++) {
                if (jobs[i] == f) {
                    return true;
                }
            }
            return false;
        }

        boolean add(Fault f) {
            if (size >= MOST_JOBS) {
                return false;
            }
            jobs[size] = f;
            size++;
            return true;
        }

        /** Gives days to the jobs, empties the list, and answers the weight of the broken ones. */
        int settle(int today, int days) {
            int sets = 1 << size;
            for (int set = 0; set < sets; set++) {
                hasMen[set] = areEnough(set);
                least[set] = set == 0 ? 0 : NO_WAY;
            }
            for (int d = 0; d < days; d++) {
                priceDay(sets, today, d);
                addDay(sets);
            }
            long best = NO_WAY;
            for (int set = 0; set < sets; set++) {
                best = Math.min(best, least[set] + priceWithout(sets - 1 - set));
            }
            readDays(best, today);
            return (int) (best / ONE_BROKEN);
        }

        private boolean areEnough(int set) {
            for (int i = 0; i < size; i++) {
                int trade = jobs[i].kind.trade;
                int need = 0;
                for (int j = 0; j < size; j++) {
                    need += ((set >> j) & 1) == 1 && jobs[j].kind.trade == trade ? 1 : 0;
                }
                if (isIn(trade, TEN) && need > men[trade]) {
                    return false;
                }
            }
            return true;
        }

        private void priceDay(int sets, int today, int d) {
            onDay[0] = 0;
            for (int set = 1; set < sets; set++) {
                int first = firstOf(set);
                Fault f = jobs[first];
                long own = f.promiseDay < today + d ? f.severity * ONE_BROKEN : 0;
                own += d * ONE_DAY + d * digit(first);
                boolean fits = hasMen[set] && f.home.isInOn(today + d);
                onDay[set] = fits ? Math.min(NO_WAY, onDay[set & (set - 1)] + own) : NO_WAY;
            }
        }

        private int firstOf(int set) {
            int i = 0;
            while (i < size - 1 && ((set >> i) & 1) == 0) {
                i++;
            }
            return i;
        }

        /** What each job's answer counts in the number that tells the first of like plans. */
        private static long digit(int job) {
            long unit = 1;
            for (int i = job; i < MOST_JOBS - 1; i++) {
                unit *= ANSWERS;
            }
            return unit;
        }

        /** From the greatest set down, so that the lesser ones are still without this day. */
        private void addDay(int sets) {
            for (int set = sets - 1; set > 0; set--) {
                for (int part = set; part > 0; part = (part - 1) & set) {
                    least[set] = Math.min(least[set], least[set - part] + onDay[part]);
                }
            }
        }

        private long priceWithout(int set) {
            long price = 0;
            for (int i = 0; i < size; i++) {
                if (((set >> i) & 1) == 1) {
                    price += jobs[i].severity * ONE_BROKEN + ONE_WITHOUT + MOST_DAYS * digit(i);
                }
            }
            return price;
        }

        private void readDays(long price, int today) {
            for (int i = 0; i < size; i++) {
                int answer = (int) (price / digit(i) % ANSWERS);
                settledDays[i] = answer == MOST_DAYS ? NOT : today + answer;
                jobs[i] = null;
            }
            settledSize = size;
            size = 0;
        }
    }

    /** Chances of lots, as whole numbers of ways. */
    private static final class Odds {
        private static long choose(int n, int k) {
            if (k < 0 || k > n) {
                return 0;
            }
            long ways = 1;
            for (int i = 1; i <= k; i++) {
                ways = ways * (n - k + i) / i;
            }
            return ways;
        }

        /** In how many ways some drawn of all have from .. to marked ones among them. */
        private static long ways(int all, int marked, int drawn, int from, int to) {
            long sum = 0;
            for (int i = from; i <= to; i++) {
                sum += choose(marked, i) * choose(all - marked, drawn - i);
            }
            return sum;
        }

        /** That the drawn have so many marked ones or more: in 10000ths, up. */
        static int chanceOfMany(int all, int marked, int drawn, int many) {
            long total = choose(all, drawn);
            if (drawn == 0 || total == 0) {
                return 10000;
            }
            long good = ways(all, marked, drawn, many, drawn);
            return (int) ((good * 10000 + total - 1) / total);
        }

        static int leastFalse(int all, int drawn, int found, int p) {
            long total = choose(all, drawn);
            int f = found;
            while (f < all - drawn + found && ways(all, f, drawn, found, drawn) * 100 < p * total) {
                f++;
            }
            return f;
        }

        static int greatestFalse(int all, int drawn, int found, int p) {
            long total = choose(all, drawn);
            int f = all - drawn + found;
            while (f > found && ways(all, f, drawn, 0, found) * 100 < p * total) {
                f--;
            }
            return f;
        }
    }
}
