import java.util.ArrayList;
import java.util.List;
import java.util.NoSuchElementException;

/**
 * The document once more, as plainly as it can be written: nothing is kept that can be found by
 * looking, plans are listed one by one, and hours are told by letting them pass on a whole copy.
 */
final class Oracle {
    static final class Place {
        int[] limit = new int[3];
        boolean open = true;
    }

    static final class Guest {
        int[] size = new int[3];
        int growth;
        int first;
        int end;
        int on;
        char phase = '-';
        int from;
        int to;
        int left;
    }

    final List<Place> places = new ArrayList<>();
    final List<Guest> guests = new ArrayList<>();
    final List<int[]> apart = new ArrayList<>();
    int hour;
    int switched;
    long over;

    Oracle copy() {
        Oracle other = new Oracle();
        for (Place p : places) {
            Place q = new Place();
            q.limit = p.limit.clone();
            q.open = p.open;
            other.places.add(q);
        }
        for (Guest g : guests) {
            Guest h = new Guest();
            h.size = g.size.clone();
            h.growth = g.growth;
            h.first = g.first;
            h.end = g.end;
            h.on = g.on;
            h.phase = g.phase;
            h.from = g.from;
            h.to = g.to;
            h.left = g.left;
            other.guests.add(h);
        }
        other.apart.addAll(apart);
        other.hour = hour;
        return other;
    }

    private static void index(boolean is) {
        if (!is) {
            throw new IndexOutOfBoundsException();
        }
    }

    private static void argument(boolean is) {
        if (!is) {
            throw new IllegalArgumentException();
        }
    }

    private static void operation(boolean is) {
        if (!is) {
            throw new UnsupportedOperationException();
        }
    }

    private static void state(boolean is) {
        if (!is) {
            throw new IllegalStateException();
        }
    }

    private static void element(boolean is) {
        if (!is) {
            throw new NoSuchElementException();
        }
    }

    private static boolean in(int value, int low, int high) {
        return low <= value && value <= high;
    }

    private boolean isShard(int shard) {
        return in(shard, 0, places.size() - 1);
    }

    private boolean isTenant(int tenant) {
        return in(tenant, 0, guests.size() - 1);
    }

    int addShard(int a, int b, int c) {
        argument(in(a, 1, 300) && in(b, 1, 300) && in(c, 1, 300));
        state(places.size() < 4);
        Place p = new Place();
        p.limit = new int[] {a, b, c};
        places.add(p);
        return places.size() - 1;
    }

    boolean setOpen(int shard, boolean isOpen) {
        index(isShard(shard));
        boolean before = places.get(shard).open;
        places.get(shard).open = isOpen;
        return before;
    }

    int setLimit(int shard, int measure, int limit) {
        index(isShard(shard) && in(measure, 0, 2));
        argument(in(limit, 1, 300));
        int before = places.get(shard).limit[measure];
        places.get(shard).limit[measure] = limit;
        return before;
    }

    int addTenant(int shard, int a, int b, int c, int growth) {
        index(isShard(shard));
        argument(in(a, 1, 100) && in(b, 1, 100) && in(c, 1, 100) && in(growth, 0, 9));
        operation(places.get(shard).open && hasRoom(new int[] {a, b, c}, shard));
        state(guests.size() < 6);
        Guest g = new Guest();
        g.size = new int[] {a, b, c};
        g.growth = growth;
        g.on = shard;
        guests.add(g);
        return guests.size() - 1;
    }

    private boolean hasRoom(int[] size, int shard) {
        for (int m = 0; m < 3; m++) {
            if (used(shard, m) + size[m] > places.get(shard).limit[m]) {
                return false;
            }
        }
        return true;
    }

    int setSize(int tenant, int measure, int size) {
        index(isTenant(tenant));
        argument(in(measure, 1, 2) && in(size, 1, 100));
        int before = guests.get(tenant).size[measure];
        guests.get(tenant).size[measure] = size;
        return before;
    }

    int setWindow(int tenant, int first, int end) {
        index(isTenant(tenant));
        argument(in(first, 0, 23) && in(end, 0, 23));
        Guest g = guests.get(tenant);
        g.first = first;
        g.end = end;
        int hours = 0;
        for (int h = 0; h < 24; h++) {
            hours += inWindow(g, h) ? 1 : 0;
        }
        return hours;
    }

    private static boolean inWindow(Guest g, int h) {
        if (g.first == g.end) {
            return true;
        }
        if (g.first < g.end) {
            return g.first <= h && h < g.end;
        }
        return h >= g.first || h < g.end;
    }

    private boolean areApart(int a, int b) {
        for (int[] pair : apart) {
            if (pair[0] == a && pair[1] == b || pair[0] == b && pair[1] == a) {
                return true;
            }
        }
        return false;
    }

    int keepApart(int tenant, int other) {
        index(isTenant(tenant) && isTenant(other));
        argument(tenant != other);
        operation(!areApart(tenant, other));
        state(apart.size() < 6);
        apart.add(new int[] {tenant, other});
        return apart.size();
    }

    private boolean isPresent(int tenant, int shard) {
        Guest g = guests.get(tenant);
        return g.on == shard || (g.phase == 'c' || g.phase == 'f') && g.to == shard;
    }

    private boolean isBarred(int tenant, int shard) {
        for (int other = 0; other < guests.size(); other++) {
            if (areApart(tenant, other) && isPresent(other, shard)) {
                return true;
            }
        }
        return false;
    }

    int move(int tenant, int shard) {
        index(isTenant(tenant) && isShard(shard));
        operation(reason(tenant, shard) == 'n');
        state(moves() < 3);
        Guest g = guests.get(tenant);
        g.phase = 'c';
        g.from = g.on;
        g.to = shard;
        g.left = g.size[0] / 20 + (g.size[0] % 20 == 0 ? 0 : 1);
        return g.left;
    }

    char reason(int tenant, int shard) {
        index(isTenant(tenant) && isShard(shard));
        Guest g = guests.get(tenant);
        return g.phase != '-' ? 'm'
            : g.on == shard ? 's'
            : !places.get(shard).open ? 'c'
            : isBarred(tenant, shard) ? 'p'
            : !hasRoom(g.size, shard) ? 'r'
            : 'n';
    }

    char fail(int tenant) {
        index(isTenant(tenant));
        Guest g = guests.get(tenant);
        state(g.phase != '-');
        if (g.phase != 'd') {
            g.phase = '-';
            return 'e';
        }
        g.left = 2;
        Place source = places.get(g.from);
        if (source.open && !isBarred(tenant, g.from)
                && used(g.from, 1) + g.size[1] <= source.limit[1]
                && used(g.from, 2) + g.size[2] <= source.limit[2]) {
            int former = g.to;
            g.to = g.from;
            g.from = former;
            g.on = g.to;
            switched++;
            return 'b';
        }
        return 'a';
    }

    int pass(int hours) {
        argument(in(hours, 1, 48));
        int cut = 0;
        for (int i = 0; i < hours; i++) {
            for (Guest g : guests) {
                over += isOver(g.on) ? 1 : 0;
            }
            for (Guest g : guests) {
                cut += passOne(g) ? 1 : 0;
            }
            hour++;
            if (hour % 24 == 0) {
                for (Guest g : guests) {
                    g.size[0] = Math.min(999, g.size[0] + g.growth);
                }
            }
        }
        switched += cut;
        return cut;
    }

    private boolean passOne(Guest g) {
        if (g.phase == 'c') {
            g.left--;
            if (g.left == 0) {
                g.phase = 'f';
            }
        } else if (g.phase == 'f') {
            if (inWindow(g, hour % 24)) {
                g.phase = 'd';
                g.left = 2;
                g.on = g.to;
                return true;
            }
        } else if (g.phase == 'd') {
            g.left--;
            if (g.left == 0) {
                g.phase = '-';
            }
        }
        return false;
    }

    int time() {
        return hour;
    }

    char phase(int tenant) {
        index(isTenant(tenant));
        return guests.get(tenant).phase;
    }

    int targetOf(int tenant) {
        index(isTenant(tenant));
        element(guests.get(tenant).phase != '-');
        return guests.get(tenant).to;
    }

    int hoursLeft(int tenant) {
        index(isTenant(tenant));
        element(guests.get(tenant).phase != '-');
        Oracle later = copy();
        int hours = 0;
        while (later.guests.get(tenant).phase != '-') {
            later.pass(1);
            hours++;
        }
        return hours;
    }

    int moves() {
        int count = 0;
        for (Guest g : guests) {
            count += g.phase != '-' ? 1 : 0;
        }
        return count;
    }

    int shards() {
        return places.size();
    }

    int tenants() {
        return guests.size();
    }

    int servedBy(int tenant) {
        index(isTenant(tenant));
        return guests.get(tenant).on;
    }

    int sizeOf(int tenant, int measure) {
        index(isTenant(tenant) && in(measure, 0, 2));
        return guests.get(tenant).size[measure];
    }

    int used(int shard, int measure) {
        index(isShard(shard) && in(measure, 0, 2));
        int sum = 0;
        for (Guest g : guests) {
            boolean served = g.on == shard;
            boolean reached = (g.phase == 'c' || g.phase == 'f') && g.to == shard;
            boolean cleaned = g.phase == 'd' && g.from == shard && measure == 0;
            sum += served || reached || cleaned ? g.size[measure] : 0;
        }
        return sum;
    }

    boolean isOver(int shard) {
        index(isShard(shard));
        for (int m = 0; m < 3; m++) {
            if (used(shard, m) > places.get(shard).limit[m]) {
                return true;
            }
        }
        return false;
    }

    int served(int shard) {
        index(isShard(shard));
        int count = 0;
        for (Guest g : guests) {
            count += g.on == shard ? 1 : 0;
        }
        return count;
    }

    /** All plans, in the order in which the shard of an earlier tenant weighs more. */
    private List<int[]> plans() {
        List<int[]> plans = new ArrayList<>();
        plans.add(new int[0]);
        for (int t = 0; t < guests.size(); t++) {
            List<int[]> longer = new ArrayList<>();
            for (int[] plan : plans) {
                for (int s = 0; s < places.size(); s++) {
                    int[] next = java.util.Arrays.copyOf(plan, t + 1);
                    next[t] = s;
                    longer.add(next);
                }
            }
            plans = longer;
        }
        return plans;
    }

    private boolean isSound(int[] plan) {
        for (int t = 0; t < plan.length; t++) {
            if (!places.get(plan[t]).open) {
                return false;
            }
            for (int u = 0; u < plan.length; u++) {
                if (plan[t] == plan[u] && areApart(t, u)) {
                    return false;
                }
            }
        }
        for (int s = 0; s < places.size(); s++) {
            for (int m = 0; m < 3; m++) {
                int sum = 0;
                for (int t = 0; t < plan.length; t++) {
                    sum += plan[t] == s ? guests.get(t).size[m] : 0;
                }
                if (sum > places.get(s).limit[m]) {
                    return false;
                }
            }
        }
        return true;
    }

    private int movesOf(int[] plan) {
        int count = 0;
        for (int t = 0; t < plan.length; t++) {
            count += plan[t] != guests.get(t).on ? 1 : 0;
        }
        return count;
    }

    private int[] best() {
        int[] best = null;
        for (int[] plan : plans()) {
            if (isSound(plan) && (best == null || movesOf(plan) < movesOf(best))) {
                best = plan;
            }
        }
        return best;
    }

    int fewestMoves() {
        int[] best = best();
        element(best != null);
        return movesOf(best);
    }

    int planned(int tenant) {
        index(isTenant(tenant));
        int[] best = best();
        element(best != null);
        return best[tenant];
    }

    int soundPlans() {
        int count = 0;
        for (int[] plan : plans()) {
            count += isSound(plan) ? 1 : 0;
        }
        return count;
    }

    int switches() {
        return switched;
    }

    long hoursOver() {
        return over;
    }

    float shareOf(int shard, int measure) {
        index(isShard(shard) && in(measure, 0, 2));
        return (float) used(shard, measure) / (float) places.get(shard).limit[measure];
    }

    double meanStorage() {
        if (guests.isEmpty()) {
            throw new ArithmeticException();
        }
        int sum = 0;
        for (Guest g : guests) {
            sum += g.size[0];
        }
        return (double) sum / (double) guests.size();
    }
}
