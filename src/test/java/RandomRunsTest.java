import java.util.function.Function;

/** Long runs of calls, drawn by a counter of our own, answered as the oracle answers them. */
public final class RandomRunsTest {
    private static final int RUNS = 3000;
    private static final int CALLS = 512;

    private long drawn;
    private final TenantPlacement desk = new TenantPlacement();
    private final Oracle oracle = new Oracle();
    private String call = "";
    private Function<TenantPlacement, Object> onDesk;
    private Function<Oracle, Object> onOracle;

    private RandomRunsTest(int run) {
        drawn = run * 7919L + 17;
    }

    public static void main(String[] args) {
        for (int run = 0; run < RUNS; run++) {
            Check.part("random run " + run);
            new RandomRunsTest(run).go();
        }
        Check.end();
    }

    private int draw(int count) {
        drawn = drawn * 6364136223846793005L + 1442695040888963407L;
        return (int) Math.floorMod(drawn >>> 33, (long) count);
    }

    private int between(int low, int high) {
        return low + draw(high - low + 1);
    }

    /** Mostly a number that there is, now and then one next to the edge or far off. */
    private int number(int count) {
        int kind = draw(40);
        if (kind == 0) {
            return -1;
        }
        if (kind == 1) {
            return count;
        }
        if (kind == 2) {
            return draw(2) == 0 ? Integer.MIN_VALUE : Integer.MAX_VALUE;
        }
        return count == 0 ? 0 : draw(count);
    }

    private int value(int low, int high) {
        int kind = draw(40);
        if (kind == 0) {
            return low - 1;
        }
        if (kind == 1) {
            return high + 1;
        }
        if (kind == 2) {
            return low;
        }
        if (kind == 3) {
            return high;
        }
        return between(low, high);
    }

    private void set(
            String text,
            Function<TenantPlacement, Object> desk,
            Function<Oracle, Object> oracle) {
        call = text;
        onDesk = desk;
        onOracle = oracle;
    }

    /** A desk that is full from the first: 4 shards, 6 tenants, 6 pairs in a ring. */
    private int fill() {
        for (int shard = 0; shard < 4; shard++) {
            int limit = between(150, 300);
            desk.addShard(limit, limit, limit);
            oracle.addShard(limit, limit, limit);
        }
        for (int tenant = 0; tenant < 6; tenant++) {
            int size = between(1, 75);
            int growth = draw(10);
            desk.addTenant(tenant % 4, size, size, size, growth);
            oracle.addTenant(tenant % 4, size, size, size, growth);
        }
        for (int tenant = 0; tenant < 6; tenant++) {
            desk.keepApart(tenant, (tenant + 1) % 6);
            oracle.keepApart(tenant, (tenant + 1) % 6);
        }
        return 4 + 6 + 6;
    }

    private void go() {
        int looks = between(2, 6);
        int tight = draw(3);
        int first = draw(3) == 0 ? fill() : 0;
        for (int i = first; i < CALLS; i++) {
            if (draw(10) < looks) {
                look(draw(23));
            } else {
                change(draw(24), tight);
            }
            String want = State.outcome(() -> onOracle.apply(oracle));
            String got = State.outcome(() -> onDesk.apply(desk));
            Check.due("call " + i + " " + call, want, got);
            if (!want.equals(got)) {
                return;
            }
        }
    }

    private int firstMoving() {
        int tenant = 0;
        while (oracle.phase(tenant) == '-') {
            tenant++;
        }
        return tenant;
    }

    private int limit(int tight) {
        return tight == 0 ? value(60, 140) : tight == 1 ? value(1, 300) : value(200, 300);
    }

    private int size(int tight) {
        return tight == 0 ? value(1, 60) : value(1, 100);
    }

    private void change(int kind, int tight) {
        int shard = number(oracle.shards());
        int tenant = number(oracle.tenants());
        int other = number(oracle.tenants());
        int measure = number(3);
        if (kind < 2) {
            int a = limit(tight);
            int b = limit(tight);
            int c = limit(tight);
            set("addShard(" + a + ", " + b + ", " + c + ")",
                d -> d.addShard(a, b, c), o -> o.addShard(a, b, c));
        } else if (kind < 4) {
            boolean open = draw(4) != 0;
            set("setOpen(" + shard + ", " + open + ")",
                d -> d.setOpen(shard, open), o -> o.setOpen(shard, open));
        } else if (kind < 5) {
            int limit = limit(tight);
            set("setLimit(" + shard + ", " + measure + ", " + limit + ")",
                d -> d.setLimit(shard, measure, limit), o -> o.setLimit(shard, measure, limit));
        } else if (kind < 8) {
            int a = size(tight);
            int b = size(tight);
            int c = size(tight);
            int growth = value(0, 9);
            set("addTenant(" + shard + ", " + a + ", " + b + ", " + c + ", " + growth + ")",
                d -> d.addTenant(shard, a, b, c, growth),
                o -> o.addTenant(shard, a, b, c, growth));
        } else if (kind < 10) {
            int size = size(tight);
            set("setSize(" + tenant + ", " + measure + ", " + size + ")",
                d -> d.setSize(tenant, measure, size), o -> o.setSize(tenant, measure, size));
        } else if (kind < 11) {
            int first = value(0, 23);
            int end = draw(6) == 0 ? first : value(0, 23);
            set("setWindow(" + tenant + ", " + first + ", " + end + ")",
                d -> d.setWindow(tenant, first, end), o -> o.setWindow(tenant, first, end));
        } else if (kind < 12) {
            set("keepApart(" + tenant + ", " + other + ")",
                d -> d.keepApart(tenant, other), o -> o.keepApart(tenant, other));
        } else if (kind < 18) {
            set("move(" + tenant + ", " + shard + ")",
                d -> d.move(tenant, shard), o -> o.move(tenant, shard));
        } else if (kind < 20) {
            int failing = oracle.moves() > 0 && draw(2) == 0 ? firstMoving() : tenant;
            set("fail(" + failing + ")", d -> d.fail(failing), o -> o.fail(failing));
        } else {
            int hours = draw(3) == 0 ? value(1, 48) : value(1, 4);
            set("pass(" + hours + ")", d -> d.pass(hours), o -> o.pass(hours));
        }
    }

    private void look(int kind) {
        int shard = number(oracle.shards());
        int tenant = number(oracle.tenants());
        int measure = number(3);
        String onTenant = "(" + tenant + ")";
        String onShard = "(" + shard + ")";
        String ofShard = "(" + shard + ", " + measure + ")";
        switch (kind) {
            case 0 -> set("reason(" + tenant + ", " + shard + ")",
                d -> d.reason(tenant, shard), o -> o.reason(tenant, shard));
            case 1 -> set("time()", d -> d.time(), o -> o.time());
            case 2 -> set("phase" + onTenant, d -> d.phase(tenant), o -> o.phase(tenant));
            case 3 -> set("targetOf" + onTenant, d -> d.targetOf(tenant), o -> o.targetOf(tenant));
            case 4 -> set("hoursLeft" + onTenant,
                d -> d.hoursLeft(tenant), o -> o.hoursLeft(tenant));
            case 5 -> set("hoursByPassing" + onTenant,
                d -> d.hoursByPassing(tenant), o -> o.hoursLeft(tenant));
            case 6 -> set("moves()", d -> d.moves(), o -> o.moves());
            case 7 -> set("shards()", d -> d.shards(), o -> o.shards());
            case 8 -> set("tenants()", d -> d.tenants(), o -> o.tenants());
            case 9 -> set("servedBy" + onTenant, d -> d.servedBy(tenant), o -> o.servedBy(tenant));
            case 10 -> set("sizeOf(" + tenant + ", " + measure + ")",
                d -> d.sizeOf(tenant, measure), o -> o.sizeOf(tenant, measure));
            case 11 -> set("used" + ofShard,
                d -> d.used(shard, measure), o -> o.used(shard, measure));
            case 12 -> set("usedByLooking" + ofShard,
                d -> d.usedByLooking(shard, measure), o -> o.used(shard, measure));
            case 13 -> set("isOver" + onShard, d -> d.isOver(shard), o -> o.isOver(shard));
            case 14 -> set("served" + onShard, d -> d.served(shard), o -> o.served(shard));
            case 15 -> set("fewestMoves()", d -> d.fewestMoves(), o -> o.fewestMoves());
            case 16 -> set("fewestByTrying()", d -> d.fewestByTrying(), o -> o.fewestMoves());
            case 17 -> set("planned" + onTenant, d -> d.planned(tenant), o -> o.planned(tenant));
            case 18 -> set("soundPlans()", d -> d.soundPlans(), o -> o.soundPlans());
            case 19 -> set("switches()", d -> d.switches(), o -> o.switches());
            case 20 -> set("hoursOver()", d -> d.hoursOver(), o -> o.hoursOver());
            case 21 -> set("shareOf" + ofShard,
                d -> d.shareOf(shard, measure), o -> o.shareOf(shard, measure));
            default -> set("meanStorage()", d -> d.meanStorage(), o -> o.meanStorage());
        }
    }
}
