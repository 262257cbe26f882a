import java.util.Arrays;

/**
 * A house of courses: pupils hand works in by the clock, get marks, and rules that teachers write
 * as text make values of these marks. The document tells what each call does.
 */
public final class CourseHouse {
    private static final int MOST_PUPILS = 6;
    private static final int MOST_WORKS = 10;
    private static final int MOST_RULES = 12;
    private static final int LONGEST_TEXT = 600;
    private static final int BYTES_A_CALL = 20;
    private static final int GREATEST_MARK = 20;
    private static final int LAST_TICK = 100000;
    private static final int TICKS_A_DAY = 24;
    private static final int WHOLE_SHARE = 100;
    private static final int LONGEST_LEAVE = 1000;
    private static final int GREATEST_NUMBER = 9999;
    private static final int TRIES = 3;
    private static final int PEERS = 2;

    private static final int SINGLE = 0;
    private static final int GROUPED = 1;
    private static final int TRIED = 2;
    private static final int SHOWN = 3;

    private static final int NOBODY = -1;
    private static final int OTHER = -2;
    private static final int STATE = -3;
    private static final int BELOW = -4;
    private static final int RING = -5;
    private static final int ROOM = -6;
    private static final int LESSENED = -7;
    private static final int REFUSAL_KINDS = 7;
    private static final int NONE_SUCH = -9;
    private static final int FAULT_BASE = -1000;
    private static final int HOLE_BASE = -2000;
    private static final int TWICE_BASE = -3000;
    /** Refusals are taken from this where an answer may itself be below 0. */
    private static final int APART = 2000000000;

    /** In a set of names the works have bits 0 to 9 and the rules the bits from 10 on. */
    private static final int WORK_BITS = (1 << MOST_WORKS) - 1;
    private static final int ALL_BITS = (1 << (MOST_WORKS + MOST_RULES)) - 1;

    private static final int NONE = -1;

    private final int[] groups = new int[MOST_PUPILS];
    private final Work[] works = new Work[MOST_WORKS];
    /** One for each pupil and work, those of pupil 0 first. */
    private final Sheet[] sheets = new Sheet[MOST_PUPILS * MOST_WORKS];
    private final Reader reader = new Reader();
    private final Reckoner reckoner = new Reckoner();
    private Book book = new Book();
    private final int[] refusals = new int[REFUSAL_KINDS + 1];
    private int pupils;
    private int worksMade;
    private int now;
    private int handIns;
    private int marksGiven;
    private int appeals;
    private int textsRefused;

    public CourseHouse() {
        for (int i = 0; i < works.length; i++) {
            works[i] = new Work();
        }
        for (int i = 0; i < sheets.length; i++) {
            sheets[i] = new Sheet();
        }
    }

    public int pupil() {
        if (pupils < 0 || pupils >= groups.length) {
            return refuse(ROOM);
        }
        groups[pupils] = pupils;
        return pupils++;
    }

    public int group(int p, int g) {
        if (!isPupil(p) || g < 0 || g >= MOST_PUPILS) {
            return refuse(NOBODY);
        }
        int was = groups[p];
        groups[p] = g;
        return was;
    }

    public int work(int kind, int most, int due, int less) {
        if (kind < SINGLE || kind > SHOWN) {
            return refuse(NOBODY);
        }
        if (most < 1 || due < 0 || less < 0) {
            return refuse(BELOW);
        }
        if (most > GREATEST_MARK || due > LAST_TICK || less > WHOLE_SHARE || worksMade >= MOST_WORKS) {
            return refuse(ROOM);
        }
        int number = worksMade++;
        Work made = workAt(number);
        if (made != null) {
            made.kind = kind;
            made.most = most;
            made.due = due;
            made.less = less;
        }
        return number;
    }

    public int leave(int p, int w, int ticks) {
        Sheet sheet = sheetOf(p, w);
        if (sheet == null) {
            return refuse(NOBODY);
        }
        if (ticks < 0) {
            return refuse(BELOW);
        }
        if (ticks > LONGEST_LEAVE) {
            return refuse(ROOM);
        }
        int was = sheet.leave;
        sheet.leave = ticks;
        return was;
    }

    public int excuse(int p, int w, boolean on) {
        Sheet sheet = sheetOf(p, w);
        if (sheet == null) {
            return refuse(NOBODY);
        }
        if (sheet.excused == on) {
            return 0;
        }
        sheet.excused = on;
        return 1;
    }

    public int tick(int n) {
        if (n < 1) {
            return refuse(BELOW);
        }
        if (n > LAST_TICK - now) {
            return refuse(ROOM);
        }
        now += n;
        return now;
    }

    public int text(int a, int b, int c, int d, int e) {
        if (reader.length > LONGEST_TEXT - BYTES_A_CALL) {
            return refuse(ROOM);
        }
        reader.add(a);
        reader.add(b);
        reader.add(c);
        reader.add(d);
        reader.add(e);
        return reader.length;
    }

    public int rules(int n, boolean strict) {
        if (n < 0) {
            return refuse(BELOW);
        }
        if (n > reader.length) {
            return refuse(ROOM);
        }
        int fault = reader.read(n);
        reader.length = 0;
        Book fresh = reader.book;
        if (fault >= 0) {
            return refuseText(FAULT_BASE - fault);
        }
        int hole = fresh.tie(worksMade);
        if (hole >= 0) {
            return refuseText(HOLE_BASE - hole);
        }
        int twice = fresh.firstTwice();
        if (twice >= 0) {
            return refuseText(TWICE_BASE - twice);
        }
        if (hasRing(fresh)) {
            return refuse(RING);
        }
        if (needsBeyond(fresh.size)) {
            return refuse(STATE);
        }
        fresh.arrange();
        if (strict && lessens(fresh)) {
            return refuse(LESSENED);
        }
        reader.book = book;
        book = fresh;
        return book.size;
    }

    public int name(int rule) {
        if (!isRule(rule)) {
            return refuse(NOBODY);
        }
        return book.names[rule];
    }

    public int hangs(int rule, int w) {
        if (!isRule(rule) || workAt(w) == null) {
            return refuse(NOBODY);
        }
        return bit(under(book, rule), w);
    }

    public int need(int w, int rule, int n) {
        Work work = workAt(w);
        if (work == null || (rule != NONE && !isRule(rule))) {
            return refuse(NOBODY);
        }
        if (n < 0) {
            return refuse(BELOW);
        }
        if (n > GREATEST_NUMBER) {
            return refuse(ROOM);
        }
        if (rule != NONE && bit(under(book, rule), w) == 1) {
            return refuse(RING);
        }
        work.needs = rule;
        work.number = n;
        return 1;
    }

    public int opens(int p, int w) {
        Work work = workAt(w);
        if (!isPupil(p) || work == null) {
            return refuse(NOBODY);
        }
        return isOpen(p, work) ? 1 : 0;
    }

    public int hand(int p, int w) {
        Work work = workAt(w);
        Sheet sheet = sheetOf(p, w);
        if (work == null || sheet == null) {
            return refuse(NOBODY);
        }
        if (sheet.excused || !isOpen(p, work) || !sheet.takesMore(work.kind)) {
            return refuse(STATE);
        }
        if (work.kind == GROUPED) {
            return handGrouped(p, w);
        }
        sheet.add(work.kind, now, p);
        handIns++;
        return 1;
    }

    public int mark(int p, int w, int v) {
        Work work = workAt(w);
        Sheet sheet = sheetOf(p, w);
        if (work == null || sheet == null) {
            return refuse(NOBODY);
        }
        if (work.kind == SHOWN || !sheet.waits(work.kind)) {
            return refuse(STATE);
        }
        if (v < 0) {
            return refuse(BELOW);
        }
        if (v > work.most) {
            return refuse(ROOM);
        }
        if (work.kind == GROUPED) {
            return markGrouped(sheet, w, v);
        }
        sheet.put(sheet.latest(work.kind), v);
        marksGiven++;
        return 1;
    }

    public int peer(int p, int w, int i) {
        Work work = workAt(w);
        Sheet sheet = sheetOf(p, w);
        if (work == null || sheet == null) {
            return refuse(NOBODY);
        }
        if (work.kind != SHOWN || sheet.hands == 0) {
            return refuse(STATE);
        }
        int found = peerOf(p, w, i);
        return found < 0 ? NONE_SUCH : found;
    }

    public int show(int by, int p, int w, int v) {
        Work work = workAt(w);
        Sheet sheet = sheetOf(p, w);
        if (!isPupil(by) || work == null || sheet == null) {
            return refuse(NOBODY);
        }
        if (work.kind != SHOWN || sheet.hands == 0 || !isPeer(by, p, w) || sheet.hasShown(by)) {
            return refuse(STATE);
        }
        if (v < 0) {
            return refuse(BELOW);
        }
        if (v > work.most) {
            return refuse(ROOM);
        }
        marksGiven++;
        return sheet.putShown(by, v);
    }

    public int appeal(int p, int w, int v) {
        Work work = workAt(w);
        Sheet sheet = sheetOf(p, w);
        if (work == null || sheet == null) {
            return refuse(NOBODY);
        }
        int slot = sheet.lastMarked();
        if (work.kind == SHOWN || slot < 0) {
            return refuse(STATE);
        }
        if (v < 0) {
            return refuse(BELOW);
        }
        if (v > work.most) {
            return refuse(ROOM);
        }
        appeals++;
        return sheet.put(slot, v);
    }

    public int markOf(int p, int w, int what) {
        Work work = workAt(w);
        Sheet sheet = sheetOf(p, w);
        if (work == null || sheet == null) {
            return refuse(NOBODY);
        }
        switch (what) {
            case 0:
            case 1:
                return part(sheet.worth(work), what);
            case 2:
                return sheet.excused ? 0 : sheet.isMarked() ? 1 : 2;
            case 3:
                return sheet.hands == 0 ? NONE_SUCH : sheet.days(work, sheet.latest(work.kind));
            case 4:
                return sheet.hands;
            default:
                return refuse(OTHER);
        }
    }

    public int value(int p, int rule, int what) {
        if (!isPupil(p) || !isRule(rule)) {
            return APART - refuse(NOBODY);
        }
        if (what < 0 || what > 2) {
            return APART - refuse(OTHER);
        }
        load(p);
        reckoner.settle(book, book.goal(rule), ALL_BITS);
        long found = reckoner.ofRule(rule);
        if (what == 2) {
            return Values.isNumber(found) ? 1 : found == Values.LOST ? 2 : 0;
        }
        return part(found, what);
    }

    public int range(int p, int rule, int what) {
        if (!isPupil(p) || !isRule(rule)) {
            return APART - refuse(NOBODY);
        }
        if (what < 0 || what > 4) {
            return APART - refuse(OTHER);
        }
        int open = openEnded(p) & under(book, rule);
        int many = Integer.bitCount(open);
        if (what == 4) {
            return many;
        }
        if (book.minus && many > Reckoner.MOST_VARIED) {
            return APART - refuse(STATE);
        }
        load(p);
        if (book.minus) {
            reckoner.tryAll(book, rule, open);
        } else {
            reckoner.tryEnds(book, rule, open);
        }
        if (!Values.isNumber(reckoner.lowest)) {
            return APART - refuse(STATE);
        }
        return part(what < 2 ? reckoner.lowest : reckoner.highest, what & 1);
    }

    public int least(int p, int rule, int w, int n) {
        Work work = workAt(w);
        Sheet sheet = sheetOf(p, w);
        if (work == null || sheet == null || !isRule(rule)) {
            return refuse(NOBODY);
        }
        if (sheet.excused || sheet.isMarked()) {
            return refuse(STATE);
        }
        if (n < 0) {
            return refuse(BELOW);
        }
        if (n > GREATEST_NUMBER) {
            return refuse(ROOM);
        }
        load(p);
        int found = reckoner.leastMark(book, rule, w, n);
        return found < 0 ? NONE_SUCH : found;
    }

    public int count(int what) {
        switch (what) {
            case 0:
                return pupils;
            case 1:
                return worksMade;
            case 2:
                return book.size;
            case 3:
                return now;
            case 4:
                return reader.length;
            case 5:
                return handIns;
            case 6:
                return marksGiven;
            case 7:
                return appeals;
            case 8:
                return book.minus ? 1 : 0;
            case 18:
                return textsRefused;
            default:
                int kind = what - 10;
                return what > 10 && kind < refusals.length ? refusals[kind] : NONE_SUCH;
        }
    }

    /** Counts a refusal and answers it. */
    private int refuse(int why) {
        int kind = -why;
        if (kind >= 0 && kind < refusals.length) {
            refusals[kind]++;
        }
        return why;
    }

    private int refuseText(int why) {
        textsRefused++;
        return why;
    }

    private boolean isPupil(int p) {
        return p >= 0 && p < pupils && p < groups.length;
    }

    private boolean isRule(int rule) {
        return rule >= 0 && rule < book.size && rule < book.names.length;
    }

    /** The work of that number, or null. */
    private Work workAt(int w) {
        return w >= 0 && w < worksMade && w < works.length ? works[w] : null;
    }

    /** What a pupil has to do with a work, or null if there is no such pupil or work. */
    private Sheet sheetOf(int p, int w) {
        if (!isPupil(p) || workAt(w) == null) {
            return null;
        }
        int place = p * MOST_WORKS + w;
        return place >= 0 && place < sheets.length ? sheets[place] : null;
    }

    private static int bit(int set, int place) {
        return set >> place & 1;
    }

    /** The upper (0) or lower (1) number of a value, 0 and 1 of what is no number. */
    private static int part(long value, int which) {
        if (!Values.isNumber(value)) {
            return which;
        }
        return (int) (which == 0 ? Values.upper(value) : Values.lower(value));
    }

    /** All that a rule hangs on, by names and by what works need. */
    private int under(Book in, int rule) {
        int found = in.namedBy(rule);
        for (int round = 0; round < MOST_WORKS + MOST_RULES; round++) {
            int more = found;
            for (int r = 0; r < in.size; r++) {
                if (bit(found, MOST_WORKS + r) == 1) {
                    more |= in.namedBy(r);
                }
            }
            for (int w = 0; w < worksMade; w++) {
                Work work = workAt(w);
                if (work != null && bit(found, w) == 1 && work.needs >= 0 && work.needs < in.size) {
                    more |= 1 << (MOST_WORKS + work.needs);
                }
            }
            if (more == found) {
                break;
            }
            found = more;
        }
        return found;
    }

    private boolean hasRing(Book in) {
        for (int r = 0; r < in.size; r++) {
            if (bit(under(in, r), MOST_WORKS + r) == 1) {
                return true;
            }
        }
        return false;
    }

    /** Whether a work needs a rule whose number is that many or more. */
    private boolean needsBeyond(int rules) {
        for (int w = 0; w < worksMade; w++) {
            Work work = workAt(w);
            if (work != null && work.needs >= rules) {
                return true;
            }
        }
        return false;
    }

    /** Whether a pupil would have less by new rules than by those that stand. */
    private boolean lessens(Book fresh) {
        for (int p = 0; p < pupils; p++) {
            load(p);
            reckoner.settle(book, ALL_BITS, ALL_BITS);
            reckoner.keep();
            reckoner.settle(fresh, ALL_BITS, ALL_BITS);
            for (int r = 0; r < fresh.size; r++) {
                int old = book.find(fresh.nameOf(r));
                if (old >= 0 && Values.isLess(reckoner.ofRule(r), reckoner.kept(old))) {
                    return true;
                }
            }
        }
        return false;
    }

    /** Lays a pupil's marks out for reckoning. */
    private void load(int p) {
        for (int w = 0; w < worksMade; w++) {
            Work work = workAt(w);
            Sheet sheet = sheetOf(p, w);
            if (work != null && sheet != null) {
                reckoner.setMark(w, sheet.worth(work), work.most);
            }
        }
    }

    private boolean isOpen(int p, Work work) {
        if (!isRule(work.needs)) {
            return true;
        }
        load(p);
        reckoner.settle(book, book.goal(work.needs), ALL_BITS);
        return Values.isAtLeast(reckoner.ofRule(work.needs), work.number);
    }

    /** The works that may still get a mark of a pupil, as bits. */
    private int openEnded(int p) {
        int found = 0;
        for (int w = 0; w < worksMade; w++) {
            Sheet sheet = sheetOf(p, w);
            if (sheet != null && !sheet.excused && !sheet.isMarked()) {
                found |= 1 << w;
            }
        }
        return found & WORK_BITS;
    }

    private boolean inGroup(int p, int g) {
        return isPupil(p) && groups[p] == g;
    }

    /** One hand-in of all that are in a pupil's group, none of whom may be marked. */
    private int handGrouped(int by, int w) {
        int g = isPupil(by) ? groups[by] : NONE;
        for (int q = 0; q < pupils; q++) {
            Sheet other = sheetOf(q, w);
            if (inGroup(q, g) && other != null && other.isMarked()) {
                return refuse(STATE);
            }
        }
        int many = 0;
        for (int q = 0; q < pupils; q++) {
            Sheet other = sheetOf(q, w);
            if (inGroup(q, g) && other != null) {
                other.add(GROUPED, now, by);
                many++;
            }
        }
        handIns += many;
        return many;
    }

    /** One mark for all who had the same hand-in, wherever they are now. */
    private int markGrouped(Sheet sheet, int w, int v) {
        int when = sheet.tickOf(0);
        int by = sheet.by;
        int many = 0;
        for (int q = 0; q < pupils; q++) {
            Sheet other = sheetOf(q, w);
            if (other != null && other.waits(GROUPED) && other.by == by && other.tickOf(0) == when) {
                other.put(0, v);
                many++;
            }
        }
        marksGiven += many;
        return many;
    }

    /** The peer of that number (0 or 1) of a pupil's shown work, or -1. */
    private int peerOf(int p, int w, int i) {
        if (i < 0 || i >= PEERS) {
            return NONE;
        }
        int found = 0;
        for (int step = 1; step < pupils; step++) {
            int q = p + step < pupils ? p + step : p + step - pupils;
            Sheet other = sheetOf(q, w);
            if (other != null && other.hands > 0) {
                if (found == i) {
                    return q;
                }
                found++;
            }
        }
        return NONE;
    }

    private boolean isPeer(int by, int p, int w) {
        return peerOf(p, w, 0) == by || peerOf(p, w, 1) == by;
    }

    private static final class Work {
        int kind;
        int most;
        int due;
        int less;
        int needs = NONE;
        int number;
    }

    /** What one pupil has to do with one work. */
    private static final class Sheet {
        int leave;
        boolean excused;
        /** How many hand-ins there were, also those that a later one took the place of. */
        int hands;
        /** Who handed the latest one in. */
        int by = NONE;
        final int[] ticks = new int[TRIES];
        final int[] marks = new int[TRIES];
        /** The marks of the peers, by the peers' numbers. */
        final int[] shown = new int[MOST_PUPILS];

        Sheet() {
            Arrays.fill(marks, NONE);
            Arrays.fill(shown, NONE);
        }

        /** The slot of the latest hand-in, or -1: only tries have a slot each. */
        int latest(int kind) {
            if (hands == 0) {
                return NONE;
            }
            return kind == TRIED ? hands - 1 : 0;
        }

        boolean isSlot(int slot) {
            return slot >= 0 && slot < TRIES && slot < marks.length && slot < ticks.length;
        }

        int tickOf(int slot) {
            return slot >= 0 && slot < ticks.length ? ticks[slot] : 0;
        }

        /** The slot of the latest hand-in that has a mark, or -1. */
        int lastMarked() {
            for (int slot = marks.length - 1; slot >= 0; slot--) {
                if (marks[slot] >= 0) {
                    return slot;
                }
            }
            return NONE;
        }

        /** Whether the latest hand-in is there and has no mark. */
        boolean waits(int kind) {
            int slot = latest(kind);
            return isSlot(slot) && marks[slot] < 0;
        }

        /** Whether one more hand-in is allowed by those that were. */
        boolean takesMore(int kind) {
            switch (kind) {
                case TRIED:
                    return hands < TRIES && !waits(kind);
                case SHOWN:
                    return hands == 0;
                default:
                    return lastMarked() < 0;
            }
        }

        void add(int kind, int tick, int who) {
            hands++;
            by = who;
            int slot = latest(kind);
            if (isSlot(slot)) {
                ticks[slot] = tick;
            }
        }

        /** Puts a mark and answers the one that was there. */
        int put(int slot, int v) {
            if (!isSlot(slot)) {
                return NONE;
            }
            int was = marks[slot];
            marks[slot] = v;
            return was;
        }

        boolean hasShown(int who) {
            return who >= 0 && who < shown.length && shown[who] >= 0;
        }

        /** Puts a peer's mark and answers how many there are then. */
        int putShown(int who, int v) {
            if (who >= 0 && who < shown.length) {
                shown[who] = v;
            }
            return shownMarks();
        }

        int shownMarks() {
            int many = 0;
            for (int i = 0; i < shown.length; i++) {
                if (shown[i] >= 0) {
                    many++;
                }
            }
            return many;
        }

        boolean isMarked() {
            return lastMarked() >= 0 || shownMarks() > 0;
        }

        /** Begun days that a hand-in came too late. */
        int days(Work work, int slot) {
            int late = tickOf(slot) - work.due - leave;
            return late <= 0 ? 0 : (late + TICKS_A_DAY - 1) / TICKS_A_DAY;
        }

        /** How many hundredths of a mark are left of it for a hand-in. */
        int share(Work work, int slot) {
            int left = WHOLE_SHARE - work.less * days(work, slot);
            return left < 0 ? 0 : left;
        }

        /** The mark as a value. */
        long worth(Work work) {
            if (excused) {
                return Values.OUT;
            }
            if (work.kind == SHOWN) {
                return shownWorth(work);
            }
            int most = 0;
            for (int slot = 0; slot < marks.length; slot++) {
                if (marks[slot] >= 0) {
                    most = Math.max(most, marks[slot] * share(work, slot));
                }
            }
            return Values.of(most, WHOLE_SHARE);
        }

        private long shownWorth(Work work) {
            int many = shownMarks();
            if (many == 0) {
                return Values.ZERO;
            }
            int sum = 0;
            for (int i = 0; i < shown.length; i++) {
                if (shown[i] >= 0) {
                    sum += shown[i];
                }
            }
            return Values.of((long) sum * share(work, 0), (long) many * WHOLE_SHARE);
        }
    }

    /**
     * Values, each in one long so that reckoning makes no objects: the upper number in the high
     * half, the lower one in the low half. What is no number has 0 there.
     */
    private static final class Values {
        static final long OUT = 0L;
        static final long LOST = 1L << 32;
        /** A product that went beyond the bounds, but is out if one of the parts behind is. */
        static final long BEYOND = 2L << 32;
        static final long ZERO = 1L;
        static final long BOUND = 1000000000L;
        /** More steps than the greatest divisor of any two longs can take. */
        static final int DIVISOR_STEPS = 128;

        static long upper(long x) {
            return x >> 32;
        }

        static long lower(long x) {
            return x & 0xffffffffL;
        }

        static boolean isNumber(long x) {
            return (x & 0xffffffffL) != 0;
        }

        static long whole(int n) {
            return (long) n << 32 | 1L;
        }

        /** The value in least terms; the lower number is above 0. */
        static long of(long up, long low) {
            if (low <= 0) {
                return LOST;
            }
            if (low != 1) {
                long a = up < 0 ? -up : up;
                long b = low;
                for (int i = 0; i < DIVISOR_STEPS && a != 0; i++) {
                    long rest = b % a;
                    b = a;
                    a = rest;
                }
                if (b > 1) {
                    up = up / b;
                    low = low / b;
                }
            }
            if (up < -BOUND || up > BOUND || low > BOUND) {
                return LOST;
            }
            return up << 32 | low;
        }

        /** The sum, in which one that is out is left out. */
        static long plus(long x, long y) {
            if (x == LOST || y == LOST) {
                return LOST;
            }
            if (x == OUT) {
                return y;
            }
            if (y == OUT) {
                return x;
            }
            return of(upper(x) * lower(y) + upper(y) * lower(x), lower(x) * lower(y));
        }

        static long negated(long x) {
            return isNumber(x) ? -upper(x) << 32 | lower(x) : x;
        }

        /** A product and one part more. */
        static long times(long x, long y) {
            if (x == LOST || y == LOST) {
                return LOST;
            }
            if (x == OUT || y == OUT) {
                return OUT;
            }
            return x == BEYOND ? x : onTheWay(of(upper(x) * upper(y), lower(x) * lower(y)));
        }

        /** A product by a number. */
        static long over(long x, int n) {
            return isNumber(x) ? onTheWay(of(upper(x), lower(x) * n)) : x;
        }

        private static long onTheWay(long x) {
            return x == LOST ? BEYOND : x;
        }

        /** A product, when there are no more parts of it. */
        static long ended(long x) {
            return x == BEYOND ? LOST : x;
        }

        static long cap(long x, int n) {
            return isAtLeast(x, n) ? whole(n) : x;
        }

        static long pass(long x, int n) {
            return isNumber(x) ? whole(isAtLeast(x, n) ? 1 : 0) : x;
        }

        /** Whether both are numbers and x is the lesser one. */
        static boolean isLess(long x, long y) {
            return isNumber(x) && isNumber(y) && upper(x) * lower(y) < upper(y) * lower(x);
        }

        static boolean isAtLeast(long x, int n) {
            return isNumber(x) && upper(x) >= n * lower(x);
        }
    }

    /** Rules, as steps that each take some values from a stack and put one there. */
    private static final class Book {
        static final int PUT = 0;
        static final int NAMED = 1;
        static final int PLUS = 2;
        static final int MINUS = 3;
        static final int TIMES = 4;
        static final int OVER = 5;
        static final int MAX = 6;
        static final int MIN = 7;
        static final int MEAN = 8;
        static final int BEST = 9;
        static final int DROP = 10;
        static final int CAP = 11;
        static final int PASS = 12;
        static final int END_PRODUCT = 13;

        static final int FIRST_WORK = 23 * 27 + 1;
        /** A word makes one step at most, and the end of a product one more. */
        static final int MOST_STEPS = 2 * LONGEST_TEXT;

        int size;
        boolean minus;
        int steps;
        final int[] names = new int[MOST_RULES];
        final int[] begins = new int[MOST_RULES];
        final int[] ends = new int[MOST_RULES];
        /** What each rule names. */
        final int[] named = new int[MOST_RULES];
        /** What each rule's value is made of: what it names, and so on. */
        final int[] below = new int[MOST_RULES];
        /** The rules' numbers, each behind those of the rules that it names. */
        final int[] order = new int[MOST_RULES];
        final int[] ops = new int[MOST_STEPS];
        final int[] args = new int[MOST_STEPS];
        /** How many values each step takes. */
        final int[] takes = new int[MOST_STEPS];

        void clear() {
            size = 0;
            minus = false;
            steps = 0;
        }

        boolean isPlace(int r) {
            return r >= 0 && r < size && r < MOST_RULES;
        }

        /** Begins a rule, if there is room for one more. */
        boolean begin(int called) {
            if (size < 0 || size >= MOST_RULES) {
                return false;
            }
            names[size] = called;
            begins[size] = steps;
            size++;
            return true;
        }

        /** Adds a step to the rule that was begun last. */
        void add(int op, int arg, int many) {
            int last = size - 1;
            if (steps < 0 || steps >= MOST_STEPS || !isPlace(last)) {
                return;
            }
            ops[steps] = op;
            args[steps] = arg;
            takes[steps] = many;
            steps++;
            ends[last] = steps;
        }

        int namedBy(int r) {
            return isPlace(r) ? named[r] : 0;
        }

        int nameOf(int r) {
            return isPlace(r) ? names[r] : 0;
        }

        int belowOf(int r) {
            return isPlace(r) ? below[r] : 0;
        }

        int inOrder(int i) {
            return isPlace(i) ? order[i] : NONE;
        }

        /** What must be reckoned to have the value of a rule. */
        int goal(int rule) {
            return belowOf(rule) | 1 << (MOST_WORKS + rule);
        }

        /** The number of the first rule of that name, or -1. */
        int find(int called) {
            for (int r = 0; r < size && r < names.length; r++) {
                if (names[r] == called) {
                    return r;
                }
            }
            return NONE;
        }

        /** Ties each name to its work or rule; answers the first rule with a hole, or -1. */
        int tie(int works) {
            for (int r = 0; r < size && r < MOST_RULES; r++) {
                named[r] = 0;
                for (int i = begins[r]; i >= 0 && i < ends[r] && i < MOST_STEPS; i++) {
                    if (ops[i] == NAMED) {
                        int place = placeOf(args[i], works);
                        if (place < 0) {
                            return r;
                        }
                        args[i] = place;
                        named[r] |= 1 << place;
                    }
                }
            }
            return NONE;
        }

        /** The bit of a work's or rule's name, or -1. */
        private int placeOf(int called, int works) {
            int w = called - FIRST_WORK;
            if (w >= 0 && w < MOST_WORKS) {
                return w < works ? w : NONE;
            }
            int r = find(called);
            return r < 0 ? NONE : MOST_WORKS + r;
        }

        /** The first rule that has an earlier one's name, or -1. */
        int firstTwice() {
            for (int r = 0; r < size && r < names.length; r++) {
                if (find(names[r]) < r) {
                    return r;
                }
            }
            return NONE;
        }

        /** Finds the order and what is below each rule; no rule may hang on itself. */
        void arrange() {
            int placed = 0;
            int many = 0;
            for (int round = 0; round < size; round++) {
                for (int r = 0; r < size && r < MOST_RULES; r++) {
                    int own = 1 << (MOST_WORKS + r);
                    boolean ready = (named[r] & ~WORK_BITS & ~placed) == 0;
                    if (ready && (placed & own) == 0 && many >= 0 && many < MOST_RULES) {
                        below[r] = withBelow(named[r]);
                        order[many] = r;
                        many++;
                        placed |= own;
                    }
                }
            }
        }

        /** A set with all that is below the rules in it. */
        private int withBelow(int set) {
            int all = set;
            for (int r = 0; r < size; r++) {
                if (bit(set, MOST_WORKS + r) == 1) {
                    all |= belowOf(r);
                }
            }
            return all;
        }
    }

    /** Gathers the text and reads it into a book. */
    private static final class Reader {
        /** The kinds of words; a sign, and any other byte, is its own kind. */
        static final int NUMBER = 1000;
        static final int NAME = 1001;
        static final int NO_WORD = 1002;
        static final int END = 1003;

        static final int LONGEST_WORD = 4;
        static final int MOST_SUMS = 10;
        static final int DEEPEST = 8;

        static final int MAX_NAME = (13 * 27 + 1) * 27 + 24;
        static final int MIN_NAME = (13 * 27 + 9) * 27 + 14;
        static final int MEAN_NAME = ((13 * 27 + 5) * 27 + 1) * 27 + 14;
        static final int BEST_NAME = ((2 * 27 + 5) * 27 + 19) * 27 + 20;
        static final int DROP_NAME = ((4 * 27 + 18) * 27 + 15) * 27 + 16;
        static final int CAP_NAME = (3 * 27 + 1) * 27 + 16;
        static final int PASS_NAME = ((16 * 27 + 1) * 27 + 19) * 27 + 19;

        final byte[] bytes = new byte[LONGEST_TEXT];
        int length;
        /** What is read into; it changes places with the book of the rules that stand. */
        Book book = new Book();
        /** Of each word the kind, the number that its digits or letters make, and where it begins. */
        final int[] kinds = new int[LONGEST_TEXT + 1];
        final int[] numbers = new int[LONGEST_TEXT + 1];
        final int[] places = new int[LONGEST_TEXT + 1];
        /** The word that is looked at: which one it is, and what the rows tell of it. */
        int at;
        int kind;
        int number;
        /** The place of the first fault, or -1. */
        int fault = NONE;

        /** Four bytes more, the highest first. */
        void add(int four) {
            for (int shift = 24; shift >= 0; shift -= 8) {
                if (length >= 0 && length < bytes.length) {
                    bytes[length] = (byte) (four >> shift);
                    length++;
                }
            }
        }

        /** Reads the first n bytes; answers the place of the fault, or -1. */
        int read(int n) {
            part(n);
            book.clear();
            fault = NONE;
            turnTo(0);
            for (int i = 0; i <= MOST_RULES && fault < 0 && (i == 0 || kind != END); i++) {
                if (kind != NAME || isKept(number) || !book.begin(number)) {
                    fail();
                }
                take(NAME);
                take('=');
                readSum(0);
                take(';');
            }
            return fault;
        }

        /** Parts the first n bytes into words. */
        private void part(int n) {
            int words = 0;
            int from = 0;
            while (from < n && from < LONGEST_TEXT) {
                int found = kindAt(from);
                int to = from + 1;
                boolean grows = found == NUMBER || found == NAME;
                while (grows && to < n && to < LONGEST_TEXT && kindAt(to) == found) {
                    to++;
                }
                if (found != ' ') {
                    putWord(words, to - from > LONGEST_WORD ? NO_WORD : found, from, to);
                    words++;
                }
                from = to;
            }
            putWord(words, END, n, n);
        }

        private int kindAt(int place) {
            int b = place >= 0 && place < bytes.length ? bytes[place] : 0;
            if (b >= '0' && b <= '9') {
                return NUMBER;
            }
            return b >= 'a' && b <= 'z' ? NAME : b;
        }

        private void putWord(int i, int found, int from, int to) {
            if (i < 0 || i >= kinds.length || i >= numbers.length || i >= places.length) {
                return;
            }
            int made = 0;
            for (int j = from; j >= 0 && j < to && j < bytes.length; j++) {
                made = found == NUMBER ? made * 10 + bytes[j] - '0' : made * 27 + bytes[j] - 'a' + 1;
            }
            kinds[i] = found;
            numbers[i] = made;
            places[i] = from;
        }

        private void turnTo(int i) {
            if (i >= 0 && i < kinds.length && i < numbers.length) {
                at = i;
                kind = kinds[i];
                number = numbers[i];
            }
        }

        /** The first fault is the one that counts. */
        private void fail() {
            if (fault < 0 && at >= 0 && at < places.length) {
                fault = places[at];
            }
        }

        private void take(int due) {
            if (fault < 0 && kind == due) {
                turnTo(at + 1);
            } else {
                fail();
            }
        }

        /** Whether a rule can't have that name. */
        private static boolean isKept(int called) {
            return opOf(called) != Book.NAMED
                || (called >= Book.FIRST_WORK && called < Book.FIRST_WORK + MOST_WORKS);
        }

        private static int opOf(int called) {
            switch (called) {
                case MAX_NAME:
                    return Book.MAX;
                case MIN_NAME:
                    return Book.MIN;
                case MEAN_NAME:
                    return Book.MEAN;
                case BEST_NAME:
                    return Book.BEST;
                case DROP_NAME:
                    return Book.DROP;
                case CAP_NAME:
                    return Book.CAP;
                case PASS_NAME:
                    return Book.PASS;
                default:
                    return Book.NAMED;
            }
        }

        private void readSum(int depth) {
            if (fault >= 0 || depth > DEEPEST) {
                return;
            }
            readProduct(depth);
            for (int i = 0; i < LONGEST_TEXT && fault < 0 && (kind == '+' || kind == '-'); i++) {
                int op = kind == '+' ? Book.PLUS : Book.MINUS;
                book.minus |= op == Book.MINUS;
                take(kind);
                readProduct(depth);
                book.add(op, 0, 2);
            }
        }

        private void readProduct(int depth) {
            readPart(depth);
            if (kind != '*' && kind != '/') {
                return;
            }
            for (int i = 0; i < LONGEST_TEXT && fault < 0 && (kind == '*' || kind == '/'); i++) {
                boolean times = kind == '*';
                take(kind);
                if (times) {
                    readPart(depth);
                    book.add(Book.TIMES, 0, 2);
                } else if (number == 0) {
                    fail();
                } else {
                    book.add(Book.OVER, number, 1);
                    take(NUMBER);
                }
            }
            book.add(Book.END_PRODUCT, 0, 1);
        }

        private void readPart(int depth) {
            if (fault >= 0) {
                return;
            }
            if (kind == NUMBER) {
                book.add(Book.PUT, number, 0);
                take(NUMBER);
            } else if (kind == NAME) {
                int op = opOf(number);
                if (op == Book.NAMED) {
                    book.add(op, number, 0);
                    take(NAME);
                } else {
                    take(NAME);
                    readCall(op, depth);
                }
            } else {
                open(depth);
                readSum(depth + 1);
                take(')');
            }
        }

        /** What stands behind a name that takes sums: a number if it wants one, and the parenthesis. */
        private void readCall(int op, int depth) {
            boolean bounded = op == Book.CAP || op == Book.PASS;
            int arg = number;
            if (op == Book.BEST || op == Book.DROP) {
                take(NUMBER);
            }
            open(depth);
            readSum(depth + 1);
            int sums = 1;
            while (!bounded && sums < MOST_SUMS && fault < 0 && kind == ',') {
                take(',');
                readSum(depth + 1);
                sums++;
            }
            if (bounded) {
                take(',');
                arg = number;
                take(NUMBER);
            }
            take(')');
            book.add(op, arg, sums);
        }

        private void open(int depth) {
            if (depth < DEEPEST && fault < 0 && kind == '(') {
                turnTo(at + 1);
            } else {
                fail();
            }
        }
    }

    /** Reckons the rules of a book for the marks that are laid out in it. */
    private static final class Reckoner {
        static final int MOST_VARIED = 3;

        /** The marks of the works and, behind them, the values of the rules. */
        final long[] values = new long[MOST_WORKS + MOST_RULES];
        final long[] before = new long[MOST_WORKS + MOST_RULES];
        final long[] stack = new long[LONGEST_TEXT + 2];
        final int[] mosts = new int[MOST_WORKS];
        /** The works whose marks are tried out, and the last mark of each; -1 and 0 where there is none. */
        final int[] varied = new int[MOST_VARIED];
        final int[] lasts = new int[MOST_VARIED];
        /** The works whose marks were put since the rules were reckoned. */
        int changed;
        long lowest;
        long highest;

        void setMark(int w, long worth, int most) {
            if (w >= 0 && w < mosts.length && w < values.length) {
                values[w] = worth;
                mosts[w] = most;
            }
        }

        long at(long[] row, int place) {
            return place >= 0 && place < row.length ? row[place] : Values.LOST;
        }

        long ofRule(int rule) {
            return at(values, MOST_WORKS + rule);
        }

        /** Keeps the values that are reckoned, to be told by kept. */
        void keep() {
            for (int i = 0; i < values.length && i < before.length; i++) {
                before[i] = values[i];
            }
        }

        long kept(int rule) {
            return at(before, MOST_WORKS + rule);
        }

        /** Reckons those rules of a set that are made of something that has changed. */
        void settle(Book book, int goal, int since) {
            for (int i = 0; i < book.size; i++) {
                int r = book.inOrder(i);
                int place = MOST_WORKS + r;
                boolean stale = since == ALL_BITS || (book.belowOf(r) & since) != 0;
                if (stale && bit(goal, place) == 1 && r >= 0 && place < values.length) {
                    values[place] = run(book, r);
                }
            }
        }

        private long run(Book book, int r) {
            if (!book.isPlace(r)) {
                return Values.LOST;
            }
            int height = 0;
            for (int i = book.begins[r]; i >= 0 && i < book.ends[r] && i < Book.MOST_STEPS; i++) {
                int arg = book.args[i];
                int base = height - book.takes[i];
                if (base < 0 || base + 1 >= stack.length || height > stack.length) {
                    return Values.LOST;
                }
                long x = stack[base];
                switch (book.ops[i]) {
                    case Book.PUT:
                        x = Values.whole(arg);
                        break;
                    case Book.NAMED:
                        x = at(values, arg);
                        break;
                    case Book.PLUS:
                        x = Values.plus(x, stack[base + 1]);
                        break;
                    case Book.MINUS:
                        x = Values.plus(x, Values.negated(stack[base + 1]));
                        break;
                    case Book.TIMES:
                        x = Values.times(x, stack[base + 1]);
                        break;
                    case Book.OVER:
                        x = Values.over(x, arg);
                        break;
                    case Book.END_PRODUCT:
                        x = Values.ended(x);
                        break;
                    case Book.CAP:
                        x = Values.cap(x, arg);
                        break;
                    case Book.PASS:
                        x = Values.pass(x, arg);
                        break;
                    default:
                        x = ofList(book.ops[i], arg, base, height);
                }
                stack[base] = x;
                height = base + 1;
            }
            return stack[0];
        }

        /** What a list makes of the values on the stack from base on; k is the number of best and drop. */
        private long ofList(int op, int k, int base, int height) {
            int from = base;
            int to = base;
            for (int i = base; i >= 0 && i < height && i < stack.length && to < stack.length; i++) {
                if (stack[i] == Values.LOST) {
                    return Values.LOST;
                }
                if (stack[i] != Values.OUT) {
                    stack[to] = stack[i];
                    to++;
                }
            }
            int many = to - from;
            if (many == 0) {
                return Values.OUT;
            }
            if (op != Book.MEAN) {
                sortDown(from, to);
            }
            if (op == Book.MAX) {
                to = from + 1;
            } else if (op == Book.MIN) {
                from = to - 1;
            } else if (op == Book.BEST) {
                to = from + Math.min(k, many);
            } else if (op == Book.DROP) {
                to = from + Math.max(many - k, 0);
            }
            long sum = Values.ZERO;
            for (int i = from; i >= 0 && i < to && i < stack.length; i++) {
                sum = Values.plus(sum, stack[i]);
            }
            return op == Book.MEAN ? Values.ended(Values.over(sum, many)) : sum;
        }

        /** The greatest first. */
        private void sortDown(int from, int to) {
            for (int i = from + 1; i < to && i < stack.length; i++) {
                for (int j = i; j > from && j > 0 && Values.isLess(stack[j - 1], stack[j]); j--) {
                    long lesser = stack[j - 1];
                    stack[j - 1] = stack[j];
                    stack[j] = lesser;
                }
            }
        }

        private void tryMark(int w, int v) {
            if (w >= 0 && w < MOST_WORKS) {
                values[w] = Values.whole(v);
                changed |= 1 << w;
            }
        }

        /** Lets a value, if it is a number, widen the range that was found. */
        private void widen(long found) {
            if (!Values.isNumber(found)) {
                return;
            }
            if (!Values.isNumber(lowest) || Values.isLess(found, lowest)) {
                lowest = found;
            }
            if (!Values.isNumber(highest) || Values.isLess(highest, found)) {
                highest = found;
            }
        }

        /** Finds a rule's range by the marks that are laid out and the greatest ones for the works of a set. */
        void tryEnds(Book book, int rule, int set) {
            lowest = Values.OUT;
            highest = Values.OUT;
            int goal = book.goal(rule);
            settle(book, goal, ALL_BITS);
            widen(ofRule(rule));
            for (int w = 0; w < mosts.length; w++) {
                if (bit(set, w) == 1) {
                    tryMark(w, mosts[w]);
                }
            }
            settle(book, goal, ALL_BITS);
            widen(ofRule(rule));
        }

        /** Finds a rule's range by trying all marks for the works of a set, three at most. */
        void tryAll(Book book, int rule, int set) {
            lowest = Values.OUT;
            highest = Values.OUT;
            int goal = book.goal(rule);
            // Works that are only needed on the way can't change the value.
            vary(set & book.belowOf(rule));
            settle(book, goal, ALL_BITS);
            for (int x = 0; x <= lasts[0]; x++) {
                tryMark(varied[0], x);
                for (int y = 0; y <= lasts[1]; y++) {
                    tryMark(varied[1], y);
                    for (int z = 0; z <= lasts[2]; z++) {
                        tryMark(varied[2], z);
                        settle(book, goal, changed);
                        changed = 0;
                        widen(ofRule(rule));
                    }
                }
            }
        }

        private void vary(int set) {
            Arrays.fill(varied, NONE);
            Arrays.fill(lasts, 0);
            int many = 0;
            for (int w = 0; w < mosts.length; w++) {
                if (bit(set, w) == 1 && many < varied.length && many < lasts.length) {
                    varied[many] = w;
                    lasts[many] = mosts[w];
                    many++;
                }
            }
        }

        /** The least mark of a work with which a rule's value is n or more, or -1. */
        int leastMark(Book book, int rule, int w, int n) {
            int most = w >= 0 && w < mosts.length ? mosts[w] : NONE;
            int since = ALL_BITS;
            for (int v = 0; v <= most; v++) {
                tryMark(w, v);
                settle(book, book.goal(rule), since);
                since = 1 << w;
                if (Values.isAtLeast(ofRule(rule), n)) {
                    return v;
                }
            }
            return NONE;
        }
    }
}
