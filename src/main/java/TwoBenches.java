import java.util.Arrays;

/**
 * A workshop with two benches, where jobs of an hour wait for others.
 * A set of JOBS is an int all through the file: bit k stands for JOB k.
 */
public final class TwoBenches {
    public static final int BAD = -1, FULL = -2, NONE = -3, RING = -4;

    private static final int NULL = -11, INDEX = -12, SIZE = -13, STORE = -14, NO_JOB = -15;
    private static final int BAD_ABOUT = -9;
    private static final long TOLD_BAD = 10000000001L, TOLD_NULL = 10000000011L, TOLD_INDEX = 10000000012L;

    private static final int SHEETS = 6, MOST_PLACES = 16;
    private static final int MISSING = -1, BYTES = 0, SHORTS = 1, INTS = 2;

    private static final int PLAIN = 0, EARLY = 1, LATE = 2, OWNED = 3;
    private static final int MOST_JOBS = 10, MOST_CHANGES = 20;
    private static final int FIRST_HOUR = 1, LAST_BOUND = 40, MOST_LENGTH = 60;
    private static final int HOUR_BITS = 6, HOUR_MASK = 63;

    // A JOB alone shares its HOUR with NOBODY, an EMPTY HOUR is NOBODY twice: so every CODE is 11 a + b.
    private static final int NOBODY = MOST_JOBS, CODE_BASE = 11, EMPTY = CODE_BASE * NOBODY + NOBODY;
    // Behind every HOUR that six bits can tell, so that no END and no way are just late ones.
    private static final int NO_END = HOUR_MASK + 1, NEVER = HOUR_MASK + 1;

    private final Sheet[] sheets = new Sheet[SHEETS];
    private final Shop shop = new Shop();
    private final Order order = new Order(shop);
    private final LabelDay labelDay = new LabelDay(shop, order);
    private final KeptDay keptDay = new KeptDay(shop, order);
    private final Ring refused = new Ring(shop);

    public TwoBenches() {
        for (int r = 0; r < SHEETS; r++) {
            sheets[r] = new Sheet();
        }
    }

    // ---- sheets

    public int sheet(int r, int kind, int n) {
        if (!isSheet(r) || kind < MISSING || kind > INTS) {
            return BAD;
        }
        if (kind == MISSING) {
            sheets[r].become(MISSING, 0);
            return 0;
        }
        if (n > MOST_PLACES) {
            return BAD;
        }
        if (n < 0) {
            return SIZE;
        }
        sheets[r].become(kind, n);
        return 0;
    }

    public int put(int r, int i, int v) {
        if (!isSheet(r)) {
            return BAD;
        }
        Sheet to = sheets[r];
        if (to.isMissing()) {
            return NULL;
        }
        if (!to.hasPlaces(i, 1)) {
            return INDEX;
        }
        to.write(i, v);
        return 0;
    }

    public int copy(int r, int i, int t, int j, int n) {
        if (!isSheet(r) || !isSheet(t)) {
            return BAD;
        }
        Sheet from = sheets[r];
        Sheet to = sheets[t];
        if (from.isMissing() || to.isMissing()) {
            return NULL;
        }
        if (from.kind != to.kind) {
            return STORE;
        }
        if (!from.hasPlaces(i, n) || !to.hasPlaces(j, n)) {
            return INDEX;
        }
        System.arraycopy(from.row, i, to.row, j, n);
        return 0;
    }

    public long told(int r, int i) {
        if (!isSheet(r)) {
            return TOLD_BAD;
        }
        Sheet from = sheets[r];
        if (from.isMissing()) {
            return TOLD_NULL;
        }
        return from.hasPlaces(i, 1) ? from.row[i] : TOLD_INDEX;
    }

    private static boolean isSheet(int r) {
        return r >= 0 && r < SHEETS;
    }

    // ---- jobs

    public int job(int kind, int a, int b) {
        if (!isKind(kind, a, b)) {
            return BAD;
        }
        return shop.jobs < MOST_JOBS ? shop.add(kind, a, b) : FULL;
    }

    public int after(int a, int b) {
        if (!shop.has(a) || !shop.has(b)) {
            return BAD;
        }
        return isRefused(a, b) ? RING : shop.waitForMore(a, bit(b));
    }

    public int read(int a, int r, int i, int n) {
        if (!shop.has(a) || !isSheet(r)) {
            return BAD;
        }
        Sheet from = sheets[r];
        if (from.isMissing()) {
            return NULL;
        }
        if (n < 0) {
            return SIZE;
        }
        return from.hasPlaces(i, n) ? readPlaces(a, from, i, n) : INDEX;
    }

    public int free(int a, int b) {
        if (!shop.has(a) || !shop.has(b)) {
            return BAD;
        }
        return shop.waitNoMore(a, b);
    }

    public int ring(int k) {
        return k < 0 ? BAD : refused.jobAt(k);
    }

    public int about(int a, int what) {
        if (!shop.has(a)) {
            return BAD_ABOUT;
        }
        switch (what) {
            case 0: return shop.kinds[a];
            case 1: return shop.beginOf(a);
            case 2: return shop.endOf(a);
            case 3: return shop.benches[a];
            case 4: return shop.waits[a];
            case 5: return orderNow().behind[a];
            case 6: return orderNow().followers[a];
            case 7: return orderNow().nexts[a];
            case 8: return orderNow().depths[a];
            case 9: return labelDayNow().labels[a];
            case 10: return labelDayNow().hours[a];
            case 11: return keptDayNow().hours[a];
            default: return BAD_ABOUT;
        }
    }

    public int undo() {
        return shop.takeBack() ? 1 : NONE;
    }

    private static boolean isKind(int kind, int a, int b) {
        switch (kind) {
            case PLAIN: return true;
            case EARLY: return isBound(a);
            case LATE: return isBound(a) && isBound(b) && a <= b;
            case OWNED: return a == 0 || a == 1;
            default: return false;
        }
    }

    private static boolean isBound(int hour) {
        return hour >= FIRST_HOUR && hour <= LAST_BOUND;
    }

    private int readPlaces(int a, Sheet from, int i, int n) {
        int others = 0;
        for (int k = 0; k < n; k++) {
            int b = from.row[i + k];
            if (!shop.has(b)) {
                return NO_JOB;
            }
            // The places ahead only make a itself wait for more, and no way from b to a leads through that.
            if (isRefused(a, b)) {
                return RING;
            }
            others |= bit(b);
        }
        return shop.waitForMore(a, others);
    }

    /** Whether a RING keeps a from waiting for b; it is kept for ring() then. */
    private boolean isRefused(int a, int b) {
        if (a != b && !holds(orderNow().behind[b], a)) {
            return false;
        }
        refused.close(a, b);
        return true;
    }

    // ---- days

    public int least() {
        return labelDayNow().length;
    }

    public int day(int hour, int i) {
        if (hour < FIRST_HOUR || i < 0 || i > 1) {
            return BAD;
        }
        LabelDay now = labelDayNow();
        if (hour > now.length) {
            return NONE;
        }
        return i == 0 ? now.firsts[hour] : now.seconds[hour];
    }

    public int idle(int i) {
        return i < 0 ? BAD : labelDayNow().idleHour(i);
    }

    public int pairs() {
        // The JOBS less the LEAST LENGTH are the most pairs (Fujii, Kasami, Ninomiya 1969).
        return shop.jobs - labelDayNow().length;
    }

    public int rest(int hour) {
        if (hour < 0) {
            return BAD;
        }
        // The JOBS above an HOUR keep the order of their LABELS among themselves,
        // so what is left of the day is their own day by LABELS, and as short as one can be.
        return Math.max(0, labelDayNow().length - hour);
    }

    public int kept() {
        return keptDayNow().length;
    }

    public int code(int hour) {
        if (hour < FIRST_HOUR) {
            return BAD;
        }
        KeptDay now = keptDayNow();
        return hour <= now.length ? now.codes[hour] : NONE;
    }

    public int check(long hours) {
        if (!isDay(hours)) {
            return 0;
        }
        return keepsToKinds(hours) ? 2 : 1;
    }

    public int count(int what) {
        switch (what) {
            case 0: return shop.jobs;
            case 1: return shop.countWaits();
            case 2: return shop.changes;
            case 3: return labelDayNow().countIdle();
            case 4: return orderNow().greatestDepth;
            default: return BAD;
        }
    }

    private boolean isDay(long hours) {
        for (int a = 0; a < shop.jobs; a++) {
            int hour = hourIn(hours, a);
            if (hour == 0) {
                return false;
            }
            int alike = 0;
            for (int b = 0; b < shop.jobs; b++) {
                int other = hourIn(hours, b);
                if (other == hour) {
                    alike++;
                }
                if (holds(shop.waits[a], b) && other >= hour) {
                    return false;
                }
            }
            if (alike > 2) {
                return false;
            }
        }
        return true;
    }

    private boolean keepsToKinds(long hours) {
        for (int a = 0; a < shop.jobs; a++) {
            int hour = hourIn(hours, a);
            if (hour < shop.begins[a] || hour > shop.ends[a]) {
                return false;
            }
            for (int b = 0; b < a; b++) {
                if (hourIn(hours, b) == hour && shop.ownedAlike(a, b)) {
                    return false;
                }
            }
        }
        return true;
    }

    private static int hourIn(long hours, int a) {
        return (int) (hours >>> (HOUR_BITS * a)) & HOUR_MASK;
    }

    private Order orderNow() {
        order.renew();
        return order;
    }

    private LabelDay labelDayNow() {
        labelDay.renew();
        return labelDay;
    }

    private KeptDay keptDayNow() {
        keptDay.renew();
        return keptDay;
    }

    private static int bit(int a) {
        return 1 << a;
    }

    private static boolean holds(int set, int a) {
        return (set & 1 << a) != 0;
    }

    /** A SHEET. Its row has all the places it can ever need, so that no call makes a new one. */
    private static final class Sheet {
        final int[] row = new int[MOST_PLACES];
        int kind = MISSING;
        int size = 0;

        void become(int newKind, int places) {
            kind = newKind;
            size = places;
            Arrays.fill(row, 0);
        }

        boolean isMissing() {
            return kind == MISSING;
        }

        boolean hasPlaces(int from, int n) {
            // Not from + n, which may wrap around.
            return from >= 0 && n >= 0 && from <= size - n;
        }

        void write(int i, int v) {
            row[i] = cut(v);
        }

        private int cut(int v) {
            switch (kind) {
                case BYTES: return (byte) v;
                case SHORTS: return (short) v;
                default: return v;
            }
        }
    }

    /** The JOBS, what they wait for, and how the latest changes are taken back. */
    private static final class Shop {
        final int[] kinds = new int[MOST_JOBS];
        // One place more: NOBODY has no BEGIN, no END and no BENCH.
        final int[] begins = new int[MOST_JOBS + 1];
        final int[] ends = new int[MOST_JOBS + 1];
        final int[] benches = new int[MOST_JOBS + 1];
        final int[] waits = new int[MOST_JOBS];
        int jobs = 0;
        int changes = 0;
        // Rises with each change, so that what was worked out of the JOBS knows that it is old.
        int version = 0;
        // Of each change the JOB that waited otherwise and for what; NOBODY: a JOB came.
        private final int[] changedJobs = new int[MOST_CHANGES];
        private final int[] waitsBefore = new int[MOST_CHANGES];

        Shop() {
            Arrays.fill(begins, FIRST_HOUR);
            Arrays.fill(ends, NO_END);
            Arrays.fill(benches, NONE);
        }

        boolean has(int a) {
            return a >= 0 && a < jobs;
        }

        int all() {
            return bit(jobs) - 1;
        }

        int add(int kind, int a, int b) {
            int added = jobs;
            note(NOBODY, 0);
            kinds[added] = kind;
            begins[added] = kind == LATE ? a : FIRST_HOUR;
            ends[added] = kind == LATE ? b : kind == EARLY ? a : NO_END;
            benches[added] = kind == OWNED ? a : NONE;
            waits[added] = 0;
            jobs++;
            return added;
        }

        int waitForMore(int a, int others) {
            int more = others & ~waits[a];
            if (more != 0) {
                note(a, waits[a]);
                waits[a] |= more;
            }
            return Integer.bitCount(more);
        }

        int waitNoMore(int a, int b) {
            if (!holds(waits[a], b)) {
                return 0;
            }
            note(a, waits[a]);
            waits[a] &= ~bit(b);
            return 1;
        }

        boolean takeBack() {
            if (changes == 0) {
                return false;
            }
            changes--;
            version++;
            int a = changedJobs[changes];
            if (a == NOBODY) {
                jobs--;
            } else {
                waits[a] = waitsBefore[changes];
            }
            return true;
        }

        private void note(int a, int before) {
            if (changes == MOST_CHANGES) {
                changes--;
                System.arraycopy(changedJobs, 1, changedJobs, 0, changes);
                System.arraycopy(waitsBefore, 1, waitsBefore, 0, changes);
            }
            changedJobs[changes] = a;
            waitsBefore[changes] = before;
            changes++;
            version++;
        }

        int beginOf(int a) {
            return kinds[a] == LATE ? begins[a] : NONE;
        }

        int endOf(int a) {
            return ends[a] == NO_END ? NONE : ends[a];
        }

        boolean ownedAlike(int a, int b) {
            return benches[a] != NONE && benches[a] == benches[b];
        }

        boolean areTwins(int a, int b) {
            return begins[a] == begins[b] && ends[a] == ends[b] && benches[a] == benches[b];
        }

        int countWaits() {
            int count = 0;
            for (int a = 0; a < jobs; a++) {
                count += Integer.bitCount(waits[a]);
            }
            return count;
        }
    }

    /** The RING of the latest wait that was refused for one. */
    private static final class Ring {
        private final Shop shop;
        private final int[] row = new int[MOST_JOBS];
        private final int[] steps = new int[MOST_JOBS];
        private int size = 0;

        Ring(Shop shop) {
            this.shop = shop;
        }

        int jobAt(int k) {
            return k < size ? row[k] : NONE;
        }

        /** Keeps the RING that a closes by waiting for b, which is a itself or BEHIND it. */
        void close(int a, int b) {
            row[0] = a;
            size = 1;
            if (a == b) {
                return;
            }
            measure(a);
            int at = b;
            for (int left = steps[b]; left > 0 && size < MOST_JOBS; left--) {
                row[size] = at;
                size++;
                at = firstNearer(at, left - 1);
            }
        }

        /** How many waits lead at least from each JOB to a; 0: none do, or it is a. */
        private void measure(int a) {
            Arrays.fill(steps, 0);
            int near = bit(a);
            for (int step = 1; step < shop.jobs; step++) {
                int reached = near;
                for (int b = 0; b < shop.jobs; b++) {
                    if (!holds(near, b) && (shop.waits[b] & near) != 0) {
                        steps[b] = step;
                        reached |= bit(b);
                    }
                }
                near = reached;
            }
        }

        private int firstNearer(int at, int left) {
            for (int b = 0; b < shop.jobs; b++) {
                if (holds(shop.waits[at], b) && steps[b] == left) {
                    return b;
                }
            }
            return at;
        }
    }

    /** Who is BEHIND whom. */
    private static final class Order {
        final int[] behind = new int[MOST_JOBS];
        final int[] followers = new int[MOST_JOBS];
        final int[] nexts = new int[MOST_JOBS];
        final int[] depths = new int[MOST_JOBS];
        int greatestDepth = 0;
        private final Shop shop;
        private int madeFor = -1;

        Order(Shop shop) {
            this.shop = shop;
        }

        void renew() {
            if (madeFor == shop.version) {
                return;
            }
            madeFor = shop.version;
            findBehind();
            findFollowers();
            findNexts();
            findDepths();
        }

        boolean areApart(int a, int b) {
            return a != b && !holds(behind[a], b) && !holds(behind[b], a);
        }

        boolean areTwins(int a, int b) {
            return behind[a] == behind[b] && followers[a] == followers[b];
        }

        private void findBehind() {
            System.arraycopy(shop.waits, 0, behind, 0, shop.jobs);
            for (int over = 0; over < shop.jobs; over++) {
                for (int a = 0; a < shop.jobs; a++) {
                    if (holds(behind[a], over)) {
                        behind[a] |= behind[over];
                    }
                }
            }
        }

        private void findFollowers() {
            Arrays.fill(followers, 0);
            for (int a = 0; a < shop.jobs; a++) {
                for (int b = 0; b < shop.jobs; b++) {
                    if (holds(behind[a], b)) {
                        followers[b] |= bit(a);
                    }
                }
            }
        }

        private void findNexts() {
            Arrays.fill(nexts, 0);
            for (int b = 0; b < shop.jobs; b++) {
                for (int a = 0; a < shop.jobs; a++) {
                    if (holds(followers[b], a) && (behind[a] & followers[b]) == 0) {
                        nexts[b] |= bit(a);
                    }
                }
            }
        }

        /** From the end on: each round takes those all whose followers were taken in rounds ahead. */
        private void findDepths() {
            int all = shop.all();
            int taken = 0;
            int depth = 0;
            while (taken != all && depth < shop.jobs) {
                depth++;
                int ahead = taken;
                for (int a = 0; a < shop.jobs; a++) {
                    if (!holds(ahead, a) && (followers[a] & ~ahead) == 0) {
                        depths[a] = depth;
                        taken |= bit(a);
                    }
                }
            }
            greatestDepth = depth;
        }
    }

    /** The LABELS and THE DAY by LABELS. */
    private static final class LabelDay {
        private static final int ABOVE_ALL_ROWS = 1 << (MOST_JOBS + 1);
        final int[] labels = new int[MOST_JOBS];
        final int[] hours = new int[MOST_JOBS];
        final int[] firsts = new int[MOST_JOBS + 1];
        final int[] seconds = new int[MOST_JOBS + 1];
        int length = 0;
        private final Shop shop;
        private final Order order;
        private final int[] jobOfLabel = new int[MOST_JOBS + 1];
        // The LABELS of a JOB's NEXTS as bits: falling rows compare just as these numbers do.
        private final int[] rows = new int[MOST_JOBS];
        private int madeFor = -1;

        LabelDay(Shop shop, Order order) {
            this.shop = shop;
            this.order = order;
        }

        void renew() {
            if (madeFor == shop.version) {
                return;
            }
            madeFor = shop.version;
            order.renew();
            giveLabels();
            fillHours();
        }

        int idleHour(int i) {
            int ahead = 0;
            for (int hour = FIRST_HOUR; hour <= length; hour++) {
                if (seconds[hour] == NONE) {
                    if (ahead == i) {
                        return hour;
                    }
                    ahead++;
                }
            }
            return NONE;
        }

        int countIdle() {
            int count = 0;
            for (int hour = FIRST_HOUR; hour <= length; hour++) {
                if (seconds[hour] == NONE) {
                    count++;
                }
            }
            return count;
        }

        private void giveLabels() {
            Arrays.fill(rows, 0);
            int labelled = 0;
            for (int label = 1; label <= shop.jobs; label++) {
                int a = firstByRow(labelled);
                labels[a] = label;
                jobOfLabel[label] = a;
                labelled |= bit(a);
                tellLabel(a, label);
            }
        }

        private int firstByRow(int labelled) {
            int first = 0;
            int leastRow = ABOVE_ALL_ROWS;
            for (int a = 0; a < shop.jobs; a++) {
                boolean mayHave = !holds(labelled, a) && (order.nexts[a] & ~labelled) == 0;
                if (mayHave && rows[a] < leastRow) {
                    first = a;
                    leastRow = rows[a];
                }
            }
            return first;
        }

        private void tellLabel(int a, int label) {
            for (int b = 0; b < shop.jobs; b++) {
                if (holds(order.nexts[b], a)) {
                    rows[b] |= bit(label);
                }
            }
        }

        private void fillHours() {
            int all = shop.all();
            int placed = 0;
            int hour = 0;
            while (placed != all && hour < shop.jobs) {
                hour++;
                int first = greatestReady(placed, NOBODY);
                int second = greatestReady(placed, first);
                firsts[hour] = first;
                seconds[hour] = second;
                placed |= place(first, hour) | place(second, hour);
            }
            length = hour;
        }

        /** The JOB with the greatest LABEL of those that may come behind what is placed, but for one. */
        private int greatestReady(int placed, int butFor) {
            for (int label = shop.jobs; label >= 1; label--) {
                int a = jobOfLabel[label];
                if (a != butFor && !holds(placed, a) && (order.behind[a] & ~placed) == 0) {
                    return a;
                }
            }
            return NONE;
        }

        private int place(int a, int hour) {
            if (a == NONE) {
                return 0;
            }
            hours[a] = hour;
            return bit(a);
        }
    }

    /**
     * THE KEPT DAY. A block is what may fill an HOUR: one JOB or two.
     * An HOUR may stand EMPTY, so to be done sooner never hurts: of each set of JOBS
     * the one soonest HOUR, or the one latest, tells all that counts.
     */
    private static final class KeptDay {
        private static final int MOST_BLOCKS = MOST_JOBS * (MOST_JOBS + 1) / 2, SETS = 1 << MOST_JOBS;
        final int[] codes = new int[MOST_LENGTH + 1];
        final int[] hours = new int[MOST_JOBS];
        int length = 0;
        private final Shop shop;
        private final Order order;
        // What must be done ahead of a block, and that together with the block itself.
        private final int[] blockNeeds = new int[MOST_BLOCKS];
        private final int[] blockSums = new int[MOST_BLOCKS];
        private final int[] blockBegins = new int[MOST_BLOCKS];
        private final int[] blockEnds = new int[MOST_BLOCKS];
        private final int[] blockCodes = new int[MOST_BLOCKS];
        private int blocks = 0;
        // The soonest HOUR at whose end just these JOBS can be done.
        private final int[] soonest = new int[SETS];
        // The latest HOUR at whose end they may be done if the LENGTH is to be kept.
        private final int[] latest = new int[SETS];
        private int madeFor = -1;

        KeptDay(Shop shop, Order order) {
            this.shop = shop;
            this.order = order;
        }

        void renew() {
            if (madeFor == shop.version) {
                return;
            }
            madeFor = shop.version;
            order.renew();
            listBlocks();
            findSoonest();
            int least = soonest[shop.all()];
            if (least > MOST_LENGTH) {
                length = NONE;
                Arrays.fill(hours, NONE);
                return;
            }
            length = least;
            findLatest();
            fillHours();
        }

        /** All blocks, by their CODES, rising. */
        private void listBlocks() {
            blocks = 0;
            for (int a = 0; a < shop.jobs; a++) {
                int needs = order.behind[a] | lesserTwins(a);
                for (int b = a + 1; b < shop.jobs; b++) {
                    if (order.areApart(a, b) && !shop.ownedAlike(a, b)) {
                        addBlock(a, b, bit(a) | bit(b), needs | order.behind[b] | lesserTwins(b));
                    }
                }
                addBlock(a, NOBODY, bit(a), needs);
            }
        }

        /**
         * The JOBS of lesser numbers that could change places with a in every DAY. THE KEPT DAY has none
         * of them behind a (to change places would make the first CODE that differs less),
         * and without the days that have one far fewer sets are left to look at.
         */
        private int lesserTwins(int a) {
            int twins = 0;
            for (int b = 0; b < a; b++) {
                if (order.areTwins(a, b) && shop.areTwins(a, b)) {
                    twins |= bit(b);
                }
            }
            return twins;
        }

        private void addBlock(int a, int b, int block, int needs) {
            int begin = Math.max(shop.begins[a], shop.begins[b]);
            int end = Math.min(shop.ends[a], shop.ends[b]);
            if (begin > end || blocks >= MOST_BLOCKS) {
                return;
            }
            blockNeeds[blocks] = needs & ~block;
            blockSums[blocks] = needs | block;
            blockBegins[blocks] = begin;
            blockEnds[blocks] = end;
            blockCodes[blocks] = CODE_BASE * a + b;
            blocks++;
        }

        private void findSoonest() {
            int all = shop.all();
            for (int set = 1; set <= all; set++) {
                soonest[set] = NEVER;
            }
            soonest[0] = 0;
            for (int done = 0; done < all; done++) {
                if (soonest[done] < NEVER) {
                    goOnFrom(done);
                }
            }
        }

        private void goOnFrom(int done) {
            for (int block = 0; block < blocks; block++) {
                if ((done & blockSums[block]) == blockNeeds[block]) {
                    int hour = Math.max(soonest[done] + 1, blockBegins[block]);
                    int then = done | blockSums[block];
                    if (hour <= blockEnds[block] && hour < soonest[then]) {
                        soonest[then] = hour;
                    }
                }
            }
        }

        private void findLatest() {
            int all = shop.all();
            latest[all] = length;
            for (int done = all - 1; done >= 0; done--) {
                latest[done] = soonest[done] < NEVER ? latestFor(done) : -1;
            }
        }

        private int latestFor(int done) {
            int most = -1;
            for (int block = 0; block < blocks; block++) {
                if ((done & blockSums[block]) == blockNeeds[block]) {
                    int hour = Math.min(latest[done | blockSums[block]], blockEnds[block]);
                    if (hour >= blockBegins[block]) {
                        most = Math.max(most, hour - 1);
                    }
                }
            }
            return most;
        }

        private void fillHours() {
            int done = 0;
            for (int hour = FIRST_HOUR; hour <= length; hour++) {
                int code = leastCode(done, hour);
                codes[hour] = code;
                done |= place(code / CODE_BASE, hour) | place(code % CODE_BASE, hour);
            }
        }

        private int leastCode(int done, int hour) {
            for (int block = 0; block < blocks; block++) {
                if ((done & blockSums[block]) == blockNeeds[block]
                        && hour >= blockBegins[block] && hour <= blockEnds[block]
                        && hour <= latest[done | blockSums[block]]) {
                    return blockCodes[block];
                }
            }
            return EMPTY;
        }

        private int place(int a, int hour) {
            if (a == NOBODY) {
                return 0;
            }
            hours[a] = hour;
            return bit(a);
        }
    }
}
