import java.util.ArrayDeque;
import java.util.ArrayList;
import java.util.Deque;
import java.util.HashMap;
import java.util.HashSet;
import java.util.List;
import java.util.Map;
import java.util.Set;
import java.util.TreeSet;

/**
 * What the document asks, tried out in the plainest way: all pairs, all ways, all days.
 * It shares no idea with the class that it is compared with, and works everything out anew for each call.
 */
final class Oracle {
    private static final int BAD = -1, FULL = -2, NONE = -3, RING = -4;
    private static final int NULL = -11, INDEX = -12, SIZE = -13, STORE = -14, NO_JOB = -15;

    private record Job(int kind, Integer begin, Integer end, Integer bench) {
    }

    private record State(List<Job> jobs, List<Set<Integer>> waits) {
        State copy() {
            List<Set<Integer>> copies = new ArrayList<>();
            for (Set<Integer> w : waits) {
                copies.add(new TreeSet<>(w));
            }
            return new State(new ArrayList<>(jobs), copies);
        }
    }

    private final int[] sorts = {-1, -1, -1, -1, -1, -1};
    private final long[][] rows = new long[6][];
    private State now = new State(new ArrayList<>(), new ArrayList<>());
    private final Deque<State> past = new ArrayDeque<>();
    private List<Integer> ringOfLatest = List.of();

    // ---- sheets

    int sheet(int r, int kind, int n) {
        if (r < 0 || r > 5 || kind < -1 || kind > 2) {
            return BAD;
        }
        if (kind >= 0 && n > 16) {
            return BAD;
        }
        if (kind >= 0 && n < 0) {
            return SIZE;
        }
        sorts[r] = kind;
        rows[r] = kind < 0 ? null : new long[n];
        return 0;
    }

    int put(int r, int i, int v) {
        if (r < 0 || r > 5) {
            return BAD;
        }
        if (rows[r] == null) {
            return NULL;
        }
        if (i < 0 || i >= rows[r].length) {
            return INDEX;
        }
        long[] spans = {256, 65536, 1L << 32};
        long span = spans[sorts[r]];
        long cut = Math.floorMod((long) v, span);
        rows[r][i] = cut >= span / 2 ? cut - span : cut;
        return 0;
    }

    int copy(int r, int i, int t, int j, int n) {
        if (r < 0 || r > 5 || t < 0 || t > 5) {
            return BAD;
        }
        if (rows[r] == null || rows[t] == null) {
            return NULL;
        }
        if (sorts[r] != sorts[t]) {
            return STORE;
        }
        if (n < 0 || i < 0 || j < 0 || (long) i + n > rows[r].length || (long) j + n > rows[t].length) {
            return INDEX;
        }
        long[] was = rows[r].clone();
        for (int k = 0; k < n; k++) {
            rows[t][j + k] = was[i + k];
        }
        return 0;
    }

    long told(int r, int i) {
        if (r < 0 || r > 5) {
            return 10000000001L;
        }
        if (rows[r] == null) {
            return 10000000011L;
        }
        return i < 0 || i >= rows[r].length ? 10000000012L : rows[r][i];
    }

    // ---- jobs

    int job(int kind, int a, int b) {
        boolean aBound = a >= 1 && a <= 40;
        boolean bBound = b >= 1 && b <= 40;
        Job added;
        if (kind == 0) {
            added = new Job(0, null, null, null);
        } else if (kind == 1 && aBound) {
            added = new Job(1, null, a, null);
        } else if (kind == 2 && aBound && bBound && a <= b) {
            added = new Job(2, a, b, null);
        } else if (kind == 3 && (a == 0 || a == 1)) {
            added = new Job(3, null, null, a);
        } else {
            return BAD;
        }
        if (size() == 10) {
            return FULL;
        }
        keep();
        now.jobs().add(added);
        now.waits().add(new TreeSet<>());
        return size() - 1;
    }

    int after(int a, int b) {
        if (!isJob(a) || !isJob(b)) {
            return BAD;
        }
        if (closesRing(now, a, b)) {
            return RING;
        }
        if (now.waits().get(a).contains(b)) {
            return 0;
        }
        keep();
        now.waits().get(a).add(b);
        return 1;
    }

    int read(int a, int r, int i, int n) {
        if (!isJob(a) || r < 0 || r > 5) {
            return BAD;
        }
        if (rows[r] == null) {
            return NULL;
        }
        if (n < 0) {
            return SIZE;
        }
        if (i < 0 || (long) i + n > rows[r].length) {
            return INDEX;
        }
        State then = now.copy();
        for (int k = i; k < i + n; k++) {
            long b = rows[r][k];
            if (b < 0 || b >= size()) {
                return NO_JOB;
            }
            if (closesRing(then, a, (int) b)) {
                return RING;
            }
            then.waits().get(a).add((int) b);
        }
        int more = then.waits().get(a).size() - now.waits().get(a).size();
        if (more > 0) {
            keep();
            now = then;
        }
        return more;
    }

    int free(int a, int b) {
        if (!isJob(a) || !isJob(b)) {
            return BAD;
        }
        if (!now.waits().get(a).contains(b)) {
            return 0;
        }
        keep();
        now.waits().get(a).remove(b);
        return 1;
    }

    int ring(int k) {
        if (k < 0) {
            return BAD;
        }
        return k < ringOfLatest.size() ? ringOfLatest.get(k) : NONE;
    }

    int about(int a, int what) {
        if (!isJob(a) || what < 0 || what > 11) {
            return -9;
        }
        Job job = now.jobs().get(a);
        switch (what) {
            case 0: return job.kind();
            case 1: return orNone(job.begin());
            case 2: return orNone(job.end());
            case 3: return orNone(job.bench());
            case 4: return bits(now.waits().get(a));
            case 5: return bits(behind(now, a));
            case 6: return bits(followers(a));
            case 7: return bits(nexts(a));
            case 8: return depth(a);
            case 9: return labels()[a];
            case 10: return labelHours()[a];
            default: return keptHour(a);
        }
    }

    int undo() {
        if (past.isEmpty()) {
            return NONE;
        }
        now = past.removeLast();
        return 1;
    }

    // ---- days

    int least() {
        return leastOf(everyJob());
    }

    int day(int hour, int i) {
        if (hour < 1 || i < 0 || i > 1) {
            return BAD;
        }
        List<List<Integer>> day = labelDay();
        return hour <= day.size() && i < day.get(hour - 1).size() ? day.get(hour - 1).get(i) : NONE;
    }

    int idle(int i) {
        if (i < 0) {
            return BAD;
        }
        List<Integer> idle = idleHours();
        return i < idle.size() ? idle.get(i) : NONE;
    }

    int pairs() {
        return mostPairs(everyJob(), new HashMap<>());
    }

    int rest(int hour) {
        if (hour < 0) {
            return BAD;
        }
        int[] hours = labelHours();
        Set<Integer> above = new TreeSet<>();
        for (int a = 0; a < size(); a++) {
            if (hours[a] > hour) {
                above.add(a);
            }
        }
        return leastOf(above);
    }

    int kept() {
        List<Integer> codes = keptCodes();
        return codes == null ? NONE : codes.size();
    }

    int code(int hour) {
        if (hour < 1) {
            return BAD;
        }
        List<Integer> codes = keptCodes();
        return codes == null || hour > codes.size() ? NONE : codes.get(hour - 1);
    }

    int check(long hours) {
        int[] h = new int[size()];
        for (int a = 0; a < size(); a++) {
            h[a] = (int) (hours >> 6 * a & 63);
            if (h[a] == 0) {
                return 0;
            }
        }
        boolean keeps = true;
        for (int a = 0; a < size(); a++) {
            int hour = h[a];
            int same = 0;
            for (int b = 0; b < size(); b++) {
                if (h[b] == hour) {
                    same++;
                    keeps &= a == b || mayShare(a, b);
                }
            }
            for (int b : behind(now, a)) {
                if (hour <= h[b]) {
                    return 0;
                }
            }
            if (same > 2) {
                return 0;
            }
            keeps &= mayStand(a, hour);
        }
        return keeps ? 2 : 1;
    }

    int count(int what) {
        switch (what) {
            case 0: return size();
            case 1: return now.waits().stream().mapToInt(Set::size).sum();
            case 2: return past.size();
            case 3: return idleHours().size();
            case 4: return everyJob().stream().mapToInt(this::depth).max().orElse(0);
            default: return BAD;
        }
    }

    int size() {
        return now.jobs().size();
    }

    private boolean isJob(int a) {
        return a >= 0 && a < size();
    }

    private void keep() {
        past.addLast(now.copy());
        if (past.size() > 20) {
            past.removeFirst();
        }
    }

    private Set<Integer> everyJob() {
        Set<Integer> every = new TreeSet<>();
        for (int a = 0; a < size(); a++) {
            every.add(a);
        }
        return every;
    }

    private static int orNone(Integer n) {
        return n == null ? NONE : n;
    }

    private static int bits(Set<Integer> jobs) {
        int bits = 0;
        for (int a : jobs) {
            bits += 1 << a;
        }
        return bits;
    }

    private static Set<Integer> behind(State state, int a) {
        Set<Integer> all = new TreeSet<>();
        Deque<Integer> open = new ArrayDeque<>(state.waits().get(a));
        while (!open.isEmpty()) {
            int b = open.pop();
            if (all.add(b)) {
                open.addAll(state.waits().get(b));
            }
        }
        return all;
    }

    private boolean isBehind(int a, int b) {
        return behind(now, a).contains(b);
    }

    private Set<Integer> followers(int b) {
        Set<Integer> all = new TreeSet<>();
        for (int a = 0; a < size(); a++) {
            if (isBehind(a, b)) {
                all.add(a);
            }
        }
        return all;
    }

    private Set<Integer> nexts(int b) {
        Set<Integer> all = new TreeSet<>();
        for (int a : followers(b)) {
            boolean next = true;
            for (int c : followers(b)) {
                next &= !isBehind(a, c);
            }
            if (next) {
                all.add(a);
            }
        }
        return all;
    }

    private int depth(int a) {
        int most = 0;
        for (int b : followers(a)) {
            most = Math.max(most, depth(b));
        }
        return most + 1;
    }

    private boolean closesRing(State state, int a, int b) {
        List<List<Integer>> ways = new ArrayList<>();
        List<Integer> way = new ArrayList<>(List.of(a));
        if (a == b) {
            ways.add(List.of(a));
        } else {
            way.add(b);
            walk(state, way, ways);
        }
        List<Integer> best = null;
        for (List<Integer> w : ways) {
            if (best == null || w.size() < best.size()
                    || w.size() == best.size() && compareRows(w, best) < 0) {
                best = w;
            }
        }
        if (best != null) {
            ringOfLatest = best;
        }
        return best != null;
    }

    private void walk(State state, List<Integer> way, List<List<Integer>> ways) {
        Set<Integer> waits = state.waits().get(way.get(way.size() - 1));
        if (waits.contains(way.get(0))) {
            ways.add(new ArrayList<>(way));
        }
        for (int b : waits) {
            if (!way.contains(b)) {
                way.add(b);
                walk(state, way, ways);
                way.remove(way.size() - 1);
            }
        }
    }

    private static int compareRows(List<Integer> x, List<Integer> y) {
        for (int k = 0; k < Math.min(x.size(), y.size()); k++) {
            if (!x.get(k).equals(y.get(k))) {
                return Integer.compare(x.get(k), y.get(k));
            }
        }
        return Integer.compare(x.size(), y.size());
    }

    private int[] labels() {
        int[] labels = new int[size()];
        for (int label = 1; label <= size(); label++) {
            int best = -1;
            List<Integer> bestRow = null;
            for (int a = 0; a < size(); a++) {
                List<Integer> row = new ArrayList<>();
                for (int b : nexts(a)) {
                    row.add(labels[b]);
                }
                row.sort((x, y) -> y - x);
                if (labels[a] == 0 && !row.contains(0) && (best < 0 || compareRows(row, bestRow) < 0)) {
                    best = a;
                    bestRow = row;
                }
            }
            labels[best] = label;
        }
        return labels;
    }

    private List<List<Integer>> labelDay() {
        int[] labels = labels();
        List<List<Integer>> day = new ArrayList<>();
        Set<Integer> placed = new TreeSet<>();
        while (placed.size() < size()) {
            List<Integer> ready = new ArrayList<>();
            for (int a = 0; a < size(); a++) {
                if (!placed.contains(a) && placed.containsAll(behind(now, a))) {
                    ready.add(a);
                }
            }
            ready.sort((a, b) -> labels[b] - labels[a]);
            List<Integer> hour = new ArrayList<>(ready.subList(0, Math.min(2, ready.size())));
            day.add(hour);
            placed.addAll(hour);
        }
        return day;
    }

    private int[] labelHours() {
        int[] hours = new int[size()];
        List<List<Integer>> day = labelDay();
        for (int h = 0; h < day.size(); h++) {
            for (int a : day.get(h)) {
                hours[a] = h + 1;
            }
        }
        return hours;
    }

    private List<Integer> idleHours() {
        List<Integer> idle = new ArrayList<>();
        List<List<Integer>> day = labelDay();
        for (int h = 0; h < day.size(); h++) {
            if (day.get(h).size() == 1) {
                idle.add(h + 1);
            }
        }
        return idle;
    }

    /** The least LENGTH of any DAY of some JOBS, by trying all: hour by hour, every one and every two that may come. */
    private int leastOf(Set<Integer> jobs) {
        Set<Set<Integer>> open = new HashSet<>();
        open.add(new TreeSet<>(jobs));
        int hours = 0;
        while (!open.contains(Set.<Integer>of())) {
            Set<Set<Integer>> then = new HashSet<>();
            for (Set<Integer> left : open) {
                for (int a : left) {
                    for (int b : left) {
                        if (isReady(a, left) && isReady(b, left)) {
                            Set<Integer> less = new TreeSet<>(left);
                            less.remove(a);
                            less.remove(b);
                            then.add(less);
                        }
                    }
                }
            }
            open = then;
            hours++;
        }
        return hours;
    }

    private boolean isReady(int a, Set<Integer> left) {
        for (int b : behind(now, a)) {
            if (left.contains(b)) {
                return false;
            }
        }
        return true;
    }

    private int mostPairs(Set<Integer> left, Map<Integer, Integer> seen) {
        if (left.isEmpty()) {
            return 0;
        }
        Integer before = seen.get(bits(left));
        if (before != null) {
            return before;
        }
        int a = left.iterator().next();
        Set<Integer> less = new TreeSet<>(left);
        less.remove(a);
        int most = mostPairs(less, seen);
        for (int b : new ArrayList<>(less)) {
            if (!isBehind(a, b) && !isBehind(b, a)) {
                less.remove(b);
                most = Math.max(most, 1 + mostPairs(less, seen));
                less.add(b);
            }
        }
        seen.put(bits(left), most);
        return most;
    }

    private boolean mayStand(int a, int hour) {
        Job job = now.jobs().get(a);
        return (job.begin() == null || hour >= job.begin()) && (job.end() == null || hour <= job.end());
    }

    private boolean mayShare(int a, int b) {
        Integer mine = now.jobs().get(a).bench();
        return mine == null || !mine.equals(now.jobs().get(b).bench());
    }

    private int keptHour(int a) {
        List<Integer> codes = keptCodes();
        if (codes == null) {
            return NONE;
        }
        for (int h = 0; h < codes.size(); h++) {
            if (codes.get(h) / 11 == a || codes.get(h) % 11 == a) {
                return h + 1;
            }
        }
        throw new IllegalStateException("a JOB has no HOUR");
    }

    private State keptFor = null;
    private List<Integer> keptFound = null;

    private List<Integer> keptCodes() {
        if (keptFor != null && keptFor.equals(now)) {
            return keptFound;
        }
        keptFor = now.copy();
        keptFound = searchKept();
        return keptFound;
    }

    /** LENGTH by LENGTH, all rows of CODES in their order; the first that gives each JOB an HOUR. */
    private List<Integer> searchKept() {
        int[] needs = new int[size()];
        for (int a = 0; a < size(); a++) {
            needs[a] = bits(behind(now, a));
        }
        for (int length = 0; length <= 60; length++) {
            List<Integer> codes = new ArrayList<>();
            if (searchFrom(1, length, 0, needs, codes, new HashSet<>())) {
                return codes;
            }
        }
        return null;
    }

    private boolean searchFrom(int hour, int length, int done, int[] needs, List<Integer> codes, Set<Integer> lost) {
        if (hour > length) {
            return done == (1 << size()) - 1;
        }
        if (lost.contains(hour << 10 | done)) {
            return false;
        }
        for (int code = 0; code <= 120; code++) {
            int a = code / 11;
            int b = code % 11;
            boolean isCode = a == 10 && b == 10 || a < size() && (b == 10 || a < b && b < size());
            if (isCode && mayCome(a, hour, done, needs) && mayCome(b, hour, done, needs)
                    && (b == 10 || mayShare(a, b))) {
                codes.add(code);
                int then = done | (1 << a | 1 << b) & 1023;
                if (searchFrom(hour + 1, length, then, needs, codes, lost)) {
                    return true;
                }
                codes.remove(codes.size() - 1);
            }
        }
        lost.add(hour << 10 | done);
        return false;
    }

    private boolean mayCome(int a, int hour, int done, int[] needs) {
        return a == 10 || (done >> a & 1) == 0 && (needs[a] & ~done) == 0 && mayStand(a, hour);
    }
}
