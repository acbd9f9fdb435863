import java.util.NoSuchElementException;

/**
 * A desk that places tenants on shards of a service: sizes by three measures that grow, limits,
 * pairs of tenants that are kept apart, moves that copy, follow, cut over and clean, windows for
 * cutting over, failed steps that go back, and plans with the fewest moves.
 */
public final class TenantPlacement {
    private static final int MOST_SHARDS = 4;
    private static final int MOST_TENANTS = 6;
    private static final int MOST_PAIRS = 6;
    private static final int MOST_MOVES = 3;

    private static final int STORAGE = 0;
    private static final int LOAD = 1;
    private static final int CONNECTIONS = 2;
    private static final int MEASURES = 3;

    private static final int MOST_LIMIT = 300;
    private static final int MOST_SIZE = 100;
    private static final int MOST_GROWTH = 9;
    private static final int MOST_STORAGE = 999;

    private static final int HOURS_OF_DAY = 24;
    private static final int MOST_HOURS_AT_ONCE = 48;
    private static final int STORAGE_AN_HOUR = 20;
    private static final int CUTTING_HOURS = 1;
    private static final int CLEANING_HOURS = 2;
    /** Far above the hours of any move: a target holds 300 at most, so 15 + 23 + 1 + 2. */
    private static final int MOST_HOURS_OF_MOVE = 1000;

    private static final char COPYING = 'c';
    private static final char FOLLOWING = 'f';
    private static final char CLEANING = 'd';
    private static final char NO_MOVE = '-';

    /** Shards and tenants stand at their numbers; behind the last one there is only null. */
    private final Shard[] allShards;
    private final Tenant[] allTenants;
    private final Planner planner;
    /** Where hours pass on a copy of a move, made once for all calls. */
    private final Move trialMove;
    private int pairs;
    private int now;
    private int switchesSoFar;
    private long hoursOverSoFar;

    public TenantPlacement() {
        allShards = new Shard[MOST_SHARDS];
        allTenants = new Tenant[MOST_TENANTS];
        planner = new Planner();
        trialMove = new Move();
    }

    // ---- shards and tenants

    public int addShard(int storage, int load, int connections)
            throws IllegalArgumentException, IllegalStateException {
        requireRange(storage, 1, MOST_LIMIT);
        requireRange(load, 1, MOST_LIMIT);
        requireRange(connections, 1, MOST_LIMIT);
        int number = shards();
        if (number >= allShards.length) {
            throw new IllegalStateException("there are 4 shards");
        }
        allShards[number] = new Shard(storage, load, connections);
        return number;
    }

    public boolean setOpen(int shard, boolean isOpen) throws IndexOutOfBoundsException {
        Shard known = knownShard(shard);
        boolean wasOpen = known.isOpen;
        known.isOpen = isOpen;
        return wasOpen;
    }

    public int setLimit(int shard, int measure, int limit)
            throws IndexOutOfBoundsException, IllegalArgumentException {
        Shard known = knownShard(shard);
        requireMeasure(measure);
        requireRange(limit, 1, MOST_LIMIT);
        int before = known.limits.of(measure);
        known.limits.put(measure, limit);
        return before;
    }

    public int addTenant(int shard, int storage, int load, int connections, int growth)
            throws IndexOutOfBoundsException, IllegalArgumentException,
            UnsupportedOperationException, IllegalStateException {
        Shard known = knownShard(shard);
        requireRange(storage, 1, MOST_SIZE);
        requireRange(load, 1, MOST_SIZE);
        requireRange(connections, 1, MOST_SIZE);
        requireRange(growth, 0, MOST_GROWTH);
        if (!known.isOpen || !known.hasRoom(storage, load, connections)) {
            throw new UnsupportedOperationException("the shard is closed or has no room");
        }
        int number = tenants();
        if (number >= allTenants.length) {
            throw new IllegalStateException("there are 6 tenants");
        }
        Tenant added = new Tenant(shard, storage, load, connections, growth);
        allTenants[number] = added;
        countUse(added, 1);
        return number;
    }

    public int setSize(int tenant, int measure, int size)
            throws IndexOutOfBoundsException, IllegalArgumentException {
        Tenant known = knownTenant(tenant);
        requireRange(measure, LOAD, CONNECTIONS);
        requireRange(size, 1, MOST_SIZE);
        int before = known.sizes.of(measure);
        countUse(known, -1);
        known.sizes.put(measure, size);
        countUse(known, 1);
        return before;
    }

    public int setWindow(int tenant, int first, int end)
            throws IndexOutOfBoundsException, IllegalArgumentException {
        Tenant known = knownTenant(tenant);
        requireRange(first, 0, HOURS_OF_DAY - 1);
        requireRange(end, 0, HOURS_OF_DAY - 1);
        known.windowFirst = first;
        known.windowEnd = end;
        return known.windowHours();
    }

    public int keepApart(int tenant, int other)
            throws IndexOutOfBoundsException, IllegalArgumentException,
            UnsupportedOperationException, IllegalStateException {
        Tenant one = knownTenant(tenant);
        Tenant two = knownTenant(other);
        if (tenant == other) {
            throw new IllegalArgumentException("both tenants are the same");
        }
        if (one.isApartFrom(other)) {
            throw new UnsupportedOperationException("the tenants are kept apart already");
        }
        if (pairs >= MOST_PAIRS) {
            throw new IllegalStateException("there are 6 pairs");
        }
        one.apartFrom |= 1 << other;
        two.apartFrom |= 1 << tenant;
        pairs++;
        return pairs;
    }

    // ---- moves

    public int move(int tenant, int shard)
            throws IndexOutOfBoundsException, UnsupportedOperationException, IllegalStateException {
        Tenant known = knownTenant(tenant);
        if (reason(tenant, shard) != 'n') {
            throw new UnsupportedOperationException("the tenant cannot be moved to the shard");
        }
        if (moves() >= MOST_MOVES) {
            throw new IllegalStateException("3 moves are under way");
        }
        int hours = (known.sizes.of(STORAGE) + STORAGE_AN_HOUR - 1) / STORAGE_AN_HOUR;
        countUse(known, -1);
        known.move.begin(known.server, shard, hours);
        countUse(known, 1);
        return hours;
    }

    public char reason(int tenant, int shard) throws IndexOutOfBoundsException {
        Tenant one = knownTenant(tenant);
        Shard known = knownShard(shard);
        if (one.move.isUnderWay()) {
            return 'm';
        }
        if (one.server == shard) {
            return 's';
        }
        if (!known.isOpen) {
            return 'c';
        }
        if (isBarred(shard, one)) {
            return 'p';
        }
        Amounts sizes = one.sizes;
        if (!known.hasRoom(sizes.storage, sizes.load, sizes.connections)) {
            return 'r';
        }
        return 'n';
    }

    public char fail(int tenant) throws IndexOutOfBoundsException, IllegalStateException {
        Tenant known = knownTenant(tenant);
        if (!known.move.isUnderWay()) {
            throw new IllegalStateException("the tenant has no move");
        }
        if (known.move.isBeforeCutting()) {
            countUse(known, -1);
            known.move.end();
            countUse(known, 1);
            return 'e';
        }
        if (canGoBack(known)) {
            goBack(known);
            return 'b';
        }
        known.move.cleanAnew();
        return 'a';
    }

    public int pass(int hours) throws IllegalArgumentException {
        requireRange(hours, 1, MOST_HOURS_AT_ONCE);
        int cutOver = 0;
        for (int hour = 0; hour < hours; hour++) {
            noteHoursOver();
            cutOver += goOnWithMoves();
            now++;
            if (hourOfDay(now) == 0) {
                growStorage();
            }
        }
        return cutOver;
    }

    public int time() {
        return now;
    }

    public char phase(int tenant) throws IndexOutOfBoundsException {
        return knownTenant(tenant).move.phase;
    }

    public int targetOf(int tenant) throws IndexOutOfBoundsException, NoSuchElementException {
        return movingTenant(tenant).move.target;
    }

    public int hoursLeft(int tenant) throws IndexOutOfBoundsException, NoSuchElementException {
        Tenant moving = movingTenant(tenant);
        int left = moving.move.left;
        if (!moving.move.isBeforeCutting()) {
            return left;
        }
        int waiting = moving.hoursToWindow(hourOfDay(now + left));
        return left + waiting + CUTTING_HOURS + CLEANING_HOURS;
    }

    public int hoursByPassing(int tenant) throws IndexOutOfBoundsException, NoSuchElementException {
        Tenant moving = movingTenant(tenant);
        trialMove.copyFrom(moving.move);
        int passed = 0;
        while (passed < MOST_HOURS_OF_MOVE && trialMove.isUnderWay()) {
            trialMove.goOn(moving.isInWindow(hourOfDay(now + passed)));
            passed++;
        }
        return passed;
    }

    public int moves() {
        int count = 0;
        for (Tenant tenant : allTenants) {
            if (tenant != null && tenant.move.isUnderWay()) {
                count++;
            }
        }
        return count;
    }

    // ---- places and use

    public int shards() {
        int count = 0;
        for (Shard shard : allShards) {
            if (shard != null) {
                count++;
            }
        }
        return count;
    }

    public int tenants() {
        int count = 0;
        for (Tenant tenant : allTenants) {
            if (tenant != null) {
                count++;
            }
        }
        return count;
    }

    public int servedBy(int tenant) throws IndexOutOfBoundsException {
        return knownTenant(tenant).server;
    }

    public int sizeOf(int tenant, int measure) throws IndexOutOfBoundsException {
        Tenant known = knownTenant(tenant);
        requireMeasure(measure);
        return known.sizes.of(measure);
    }

    public int used(int shard, int measure) throws IndexOutOfBoundsException {
        Shard known = knownShard(shard);
        requireMeasure(measure);
        return known.use.of(measure);
    }

    public int usedByLooking(int shard, int measure) throws IndexOutOfBoundsException {
        knownShard(shard);
        requireMeasure(measure);
        int sum = 0;
        for (Tenant tenant : allTenants) {
            if (tenant != null) {
                sum += tenant.useOn(shard, measure);
            }
        }
        return sum;
    }

    public boolean isOver(int shard) throws IndexOutOfBoundsException {
        return knownShard(shard).usesTooMuch();
    }

    public int served(int shard) throws IndexOutOfBoundsException {
        knownShard(shard);
        int count = 0;
        for (Tenant tenant : allTenants) {
            if (tenant != null && tenant.server == shard) {
                count++;
            }
        }
        return count;
    }

    // ---- plans

    public int fewestMoves() throws NoSuchElementException {
        int fewest = planner.findBest(allShards, allTenants);
        requirePlan(fewest);
        return fewest;
    }

    public int fewestByTrying() throws NoSuchElementException {
        planner.tryAll(allShards, allTenants);
        requirePlan(planner.fewest);
        return planner.fewest;
    }

    public int planned(int tenant) throws IndexOutOfBoundsException, NoSuchElementException {
        Tenant known = knownTenant(tenant);
        requirePlan(planner.findBest(allShards, allTenants));
        return known.trialShard;
    }

    public int soundPlans() {
        planner.tryAll(allShards, allTenants);
        return planner.sound;
    }

    // ---- accounts

    public int switches() {
        return switchesSoFar;
    }

    public long hoursOver() {
        return hoursOverSoFar;
    }

    public float shareOf(int shard, int measure) throws IndexOutOfBoundsException {
        Shard known = knownShard(shard);
        requireMeasure(measure);
        int limit = known.limits.of(measure);
        return limit < 1 ? 0f : (float) known.use.of(measure) / (float) limit;
    }

    public double meanStorage() throws ArithmeticException {
        int sum = 0;
        int count = 0;
        for (Tenant tenant : allTenants) {
            if (tenant != null) {
                sum += tenant.sizes.of(STORAGE);
                count++;
            }
        }
        if (count < 1) {
            throw new ArithmeticException("there are no tenants");
        }
        return (double) sum / (double) count;
    }

    // ---- what the calls share

    private static void requireRange(int value, int least, int most) {
        if (value < least || value > most) {
            throw new IllegalArgumentException("a number is out of range");
        }
    }

    private static void requireMeasure(int measure) {
        if (measure < 0 || measure >= MEASURES) {
            throw new IndexOutOfBoundsException("there is no such measure");
        }
    }

    private static void requirePlan(int fewest) {
        if (fewest == Planner.NO_PLAN) {
            throw new NoSuchElementException("no plan is sound");
        }
    }

    private Shard shardOrNull(int number) {
        return number < 0 || number >= allShards.length ? null : allShards[number];
    }

    private Shard knownShard(int number) {
        Shard shard = shardOrNull(number);
        if (shard == null) {
            throw new IndexOutOfBoundsException("there is no such shard");
        }
        return shard;
    }

    private Tenant knownTenant(int number) {
        Tenant tenant = number < 0 || number >= allTenants.length ? null : allTenants[number];
        if (tenant == null) {
            throw new IndexOutOfBoundsException("there is no such tenant");
        }
        return tenant;
    }

    private Tenant movingTenant(int number) {
        Tenant tenant = knownTenant(number);
        if (!tenant.move.isUnderWay()) {
            throw new NoSuchElementException("the tenant has no move");
        }
        return tenant;
    }

    private static int hourOfDay(int hour) {
        return Math.floorMod(hour, HOURS_OF_DAY);
    }

    /**
     * Counts a tenant in (sign 1) or out (sign -1) of what the shards use. What changes a tenant
     * counts it out before and in again after, so that no kind of change has sums of its own.
     */
    private void countUse(Tenant tenant, int sign) {
        for (int number = 0; number < allShards.length; number++) {
            Shard shard = allShards[number];
            if (shard != null) {
                for (int measure = 0; measure < MEASURES; measure++) {
                    int before = shard.use.of(measure);
                    shard.use.put(measure, before + sign * tenant.useOn(number, measure));
                }
            }
        }
    }

    private boolean isBarred(int shard, Tenant tenant) {
        for (int number = 0; number < allTenants.length; number++) {
            Tenant other = allTenants[number];
            if (other != null && tenant.isApartFrom(number) && other.isPresentOn(shard)) {
                return true;
            }
        }
        return false;
    }

    private boolean canGoBack(Tenant tenant) {
        Shard source = shardOrNull(tenant.move.source);
        return source != null
            && source.isOpen
            && !isBarred(tenant.move.source, tenant)
            && source.hasRoomBesidesStorage(tenant.sizes);
    }

    private void goBack(Tenant tenant) {
        countUse(tenant, -1);
        tenant.move.turnRound();
        tenant.server = tenant.move.target;
        countUse(tenant, 1);
        switchesSoFar++;
    }

    private void noteHoursOver() {
        for (Tenant tenant : allTenants) {
            if (tenant != null) {
                Shard server = shardOrNull(tenant.server);
                if (server != null && server.usesTooMuch()) {
                    hoursOverSoFar++;
                }
            }
        }
    }

    private int goOnWithMoves() {
        int cutOver = 0;
        for (Tenant tenant : allTenants) {
            if (tenant != null && tenant.move.isUnderWay() && goOn(tenant)) {
                cutOver++;
            }
        }
        switchesSoFar += cutOver;
        return cutOver;
    }

    private boolean goOn(Tenant tenant) {
        countUse(tenant, -1);
        boolean isCutOver = tenant.move.goOn(tenant.isInWindow(hourOfDay(now)));
        if (isCutOver) {
            tenant.server = tenant.move.target;
        }
        countUse(tenant, 1);
        return isCutOver;
    }

    private void growStorage() {
        for (Tenant tenant : allTenants) {
            if (tenant != null) {
                countUse(tenant, -1);
                int grown = tenant.sizes.of(STORAGE) + tenant.growth;
                tenant.sizes.put(STORAGE, Math.min(grown, MOST_STORAGE));
                countUse(tenant, 1);
            }
        }
    }

    /** An amount of each measure; fields, not an array, so that no measure can be a wrong index. */
    private static final class Amounts {
        private int storage;
        private int load;
        private int connections;

        Amounts(int storage, int load, int connections) {
            this.storage = storage;
            this.load = load;
            this.connections = connections;
        }

        int of(int measure) {
            switch (measure) {
                case STORAGE:
                    return storage;
                case LOAD:
                    return load;
                case CONNECTIONS:
                    return connections;
                default:
                    return 0;
            }
        }

        void put(int measure, int amount) {
            switch (measure) {
                case STORAGE:
                    storage = amount;
                    break;
                case LOAD:
                    load = amount;
                    break;
                case CONNECTIONS:
                    connections = amount;
                    break;
                default:
                    break;
            }
        }

        void add(Amounts more) {
            storage += more.storage;
            load += more.load;
            connections += more.connections;
        }

        void subtract(Amounts less) {
            storage -= less.storage;
            load -= less.load;
            connections -= less.connections;
        }

        void clear() {
            storage = 0;
            load = 0;
            connections = 0;
        }
    }

    private static final class Shard {
        private final Amounts limits;
        private final Amounts use;
        private boolean isOpen;
        /** What the plan that is being tried puts here, and a bit for each tenant of it. */
        private final Amounts trialUse;
        private int trialTenants;

        Shard(int storage, int load, int connections) {
            limits = new Amounts(storage, load, connections);
            use = new Amounts(0, 0, 0);
            isOpen = true;
            trialUse = new Amounts(0, 0, 0);
        }

        boolean usesTooMuch() {
            return use.storage > limits.storage
                || use.load > limits.load
                || use.connections > limits.connections;
        }

        boolean hasRoom(int storage, int load, int connections) {
            return use.storage + storage <= limits.storage
                && use.load + load <= limits.load
                && use.connections + connections <= limits.connections;
        }

        boolean hasRoomBesidesStorage(Amounts sizes) {
            return use.load + sizes.load <= limits.load
                && use.connections + sizes.connections <= limits.connections;
        }

        boolean takesInTrial(Tenant tenant) {
            Amounts sizes = tenant.sizes;
            return isOpen
                && (trialTenants & tenant.apartFrom) == 0
                && trialUse.storage + sizes.storage <= limits.storage
                && trialUse.load + sizes.load <= limits.load
                && trialUse.connections + sizes.connections <= limits.connections;
        }

        void putInTrial(int number, Tenant tenant) {
            trialTenants |= 1 << number;
            trialUse.add(tenant.sizes);
        }

        void takeFromTrial(int number, Tenant tenant) {
            trialTenants &= ~(1 << number);
            trialUse.subtract(tenant.sizes);
        }

        void clearTrial() {
            trialTenants = 0;
            trialUse.clear();
        }
    }

    private static final class Tenant {
        private final Amounts sizes;
        private final int growth;
        private final Move move;
        private int server;
        private int windowFirst;
        private int windowEnd;
        /** A bit for each tenant from which this one is kept apart. */
        private int apartFrom;
        /** Where the plan that is being tried puts it. */
        private int trialShard;

        Tenant(int server, int storage, int load, int connections, int growth) {
            this.server = server;
            this.growth = growth;
            sizes = new Amounts(storage, load, connections);
            move = new Move();
        }

        boolean isApartFrom(int number) {
            return (apartFrom >> number & 1) != 0;
        }

        boolean isPresentOn(int shard) {
            return server == shard || move.isBeforeCutting() && move.target == shard;
        }

        int useOn(int shard, int measure) {
            boolean counts = isPresentOn(shard) || measure == STORAGE && move.isCleaning(shard);
            return counts ? sizes.of(measure) : 0;
        }

        int windowHours() {
            int hours = Math.floorMod(windowEnd - windowFirst, HOURS_OF_DAY);
            return hours == 0 ? HOURS_OF_DAY : hours;
        }

        boolean isInWindow(int hourOfDay) {
            return Math.floorMod(hourOfDay - windowFirst, HOURS_OF_DAY) < windowHours();
        }

        int hoursToWindow(int hourOfDay) {
            return isInWindow(hourOfDay) ? 0 : Math.floorMod(windowFirst - hourOfDay, HOURS_OF_DAY);
        }
    }

    private static final class Move {
        private char phase;
        private int source;
        private int target;
        /** The hours left of copying or cleaning; none while the tenant follows. */
        private int left;

        Move() {
            phase = NO_MOVE;
        }

        boolean isUnderWay() {
            return phase != NO_MOVE;
        }

        boolean isBeforeCutting() {
            return phase == COPYING || phase == FOLLOWING;
        }

        boolean isCleaning(int shard) {
            return phase == CLEANING && source == shard;
        }

        void begin(int from, int to, int hours) {
            phase = COPYING;
            source = from;
            target = to;
            left = hours;
        }

        void end() {
            phase = NO_MOVE;
        }

        /** Lets an hour pass and tells whether the tenant is cut over in it. */
        boolean goOn(boolean isInWindow) {
            if (phase == FOLLOWING) {
                if (isInWindow) {
                    phase = CLEANING;
                    cleanAnew();
                }
                return isInWindow;
            }
            left--;
            if (left <= 0) {
                phase = phase == COPYING ? FOLLOWING : NO_MOVE;
            }
            return false;
        }

        void cleanAnew() {
            left = CLEANING_HOURS;
        }

        void turnRound() {
            int formerTarget = target;
            target = source;
            source = formerTarget;
            cleanAnew();
        }

        void copyFrom(Move other) {
            phase = other.phase;
            source = other.source;
            target = other.target;
            left = other.left;
        }
    }

    /** Looks for sound plans, tenant by tenant, each on the shards in ascending order. */
    private static final class Planner {
        /** More moves than any plan can have. */
        private static final int NO_PLAN = MOST_TENANTS + 1;

        private int sound;
        private int fewest;

        void tryAll(Shard[] shards, Tenant[] tenants) {
            sound = 0;
            fewest = NO_PLAN;
            clearTrials(shards);
            tryFrom(this, shards, tenants, 0, 0);
        }

        /** Leaves the best plan in the tenants' trial shards and tells its moves, or NO_PLAN. */
        int findBest(Shard[] shards, Tenant[] tenants) {
            for (int allowed = 0; allowed <= tenants.length; allowed++) {
                clearTrials(shards);
                if (findFrom(shards, tenants, 0, allowed)) {
                    return allowed;
                }
            }
            return NO_PLAN;
        }

        private static void clearTrials(Shard[] shards) {
            for (Shard shard : shards) {
                if (shard != null) {
                    shard.clearTrial();
                }
            }
        }

        /** What does not fit already is tried no further: sizes only add up. */
        private static void tryFrom(
                Planner planner, Shard[] shards, Tenant[] tenants, int number, int moved) {
            Tenant tenant = tenantOrNull(tenants, number);
            if (tenant == null) {
                planner.noteSound(moved);
                return;
            }
            for (int on = 0; on < shards.length; on++) {
                Shard shard = shards[on];
                if (shard != null && shard.takesInTrial(tenant)) {
                    shard.putInTrial(number, tenant);
                    int more = on == tenant.server ? 0 : 1;
                    tryFrom(planner, shards, tenants, number + 1, moved + more);
                    shard.takeFromTrial(number, tenant);
                }
            }
        }

        private void noteSound(int moved) {
            sound++;
            fewest = Math.min(fewest, moved);
        }

        /** The first plan that is found has the lower shard for the first tenant that differs. */
        private static boolean findFrom(
                Shard[] shards, Tenant[] tenants, int number, int allowed) {
            Tenant tenant = tenantOrNull(tenants, number);
            if (tenant == null) {
                return true;
            }
            for (int on = 0; on < shards.length; on++) {
                Shard shard = shards[on];
                int left = on == tenant.server ? allowed : allowed - 1;
                if (shard != null && left >= 0 && shard.takesInTrial(tenant)) {
                    shard.putInTrial(number, tenant);
                    tenant.trialShard = on;
                    if (findFrom(shards, tenants, number + 1, left)) {
                        return true;
                    }
                    shard.takeFromTrial(number, tenant);
                }
            }
            return false;
        }

        /** Ends the search behind the last tenant, and so keeps it at most seven calls deep. */
        private static Tenant tenantOrNull(Tenant[] tenants, int number) {
            return number < 0 || number >= tenants.length ? null : tenants[number];
        }
    }
}
