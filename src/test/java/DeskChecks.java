import java.util.NoSuchElementException;
import java.util.function.Consumer;
import java.util.function.Supplier;

/** Desks to start from, and what several test classes check in the same way. */
abstract class DeskChecks {
    static final Class<IndexOutOfBoundsException> INDEX = IndexOutOfBoundsException.class;
    static final Class<IllegalArgumentException> ARGUMENT = IllegalArgumentException.class;
    static final Class<UnsupportedOperationException> OPERATION =
        UnsupportedOperationException.class;
    static final Class<IllegalStateException> STATE = IllegalStateException.class;
    static final Class<NoSuchElementException> ELEMENT = NoSuchElementException.class;
    static final Class<ArithmeticException> ARITHMETIC = ArithmeticException.class;

    /** Numbers that no shard, tenant or measure of the desks below has. */
    static final int[] NOWHERE = {-1, 7, Integer.MIN_VALUE, Integer.MAX_VALUE};

    static TenantPlacement empty() {
        return new TenantPlacement();
    }

    static TenantPlacement shardsOf(int... limits) {
        TenantPlacement desk = new TenantPlacement();
        for (int limit : limits) {
            desk.addShard(limit, limit, limit);
        }
        return desk;
    }

    /** Two wide shards; tenant 0 (45, 30, 20, growth 5) and tenant 1 (40, 10, 10, none) on 0. */
    static TenantPlacement two() {
        TenantPlacement desk = shardsOf(300, 300);
        desk.addTenant(0, 45, 30, 20, 5);
        desk.addTenant(0, 40, 10, 10, 0);
        return desk;
    }

    static TenantPlacement copying() {
        TenantPlacement desk = two();
        desk.move(0, 1);
        return desk;
    }

    static TenantPlacement following() {
        TenantPlacement desk = copying();
        desk.pass(3);
        return desk;
    }

    static TenantPlacement cleaning() {
        TenantPlacement desk = following();
        desk.pass(1);
        return desk;
    }

    /** As many shards and tenants as there may be: behind the last ones there is nothing either. */
    static TenantPlacement full() {
        TenantPlacement desk = shardsOf(300, 300, 300, 300);
        for (int tenant = 0; tenant < 6; tenant++) {
            desk.addTenant(0, 50, 50, 50, 0);
        }
        return desk;
    }

    static TenantPlacement sixTenants() {
        TenantPlacement desk = shardsOf(100, 300);
        for (int i = 0; i < 6; i++) {
            desk.addTenant(1, 10 + i, 20, 30, i);
        }
        return desk;
    }

    static TenantPlacement threeMoves() {
        TenantPlacement desk = shardsOf(300, 300, 10);
        for (int i = 0; i < 4; i++) {
            desk.addTenant(0, 50, 50, 50, 0);
        }
        desk.move(2, 1);
        desk.move(0, 1);
        desk.move(3, 1);
        return desk;
    }

    /** Three shards of 100; tenants of 60, 30 and 10 on shard 0, which is full to the brim. */
    static TenantPlacement brim() {
        TenantPlacement desk = shardsOf(100, 100, 100);
        desk.addTenant(0, 60, 60, 60, 0);
        desk.addTenant(0, 30, 30, 30, 0);
        desk.addTenant(0, 10, 10, 10, 0);
        return desk;
    }

    static TenantPlacement hopeless() {
        TenantPlacement desk = brim();
        for (int shard = 0; shard < 3; shard++) {
            desk.setLimit(shard, 1, 59);
        }
        return desk;
    }

    /**
     * All that a desk can hold: 4 shards, 6 tenants, 6 pairs in a ring, and 3 moves, of which one
     * is copying (tenant 0, from 0 to 2), one follows (1, from 1 to 3) and one cleans (3, 3 to 1).
     */
    static TenantPlacement packed() {
        TenantPlacement desk = shardsOf(200, 300, 250, 150);
        desk.addTenant(0, 45, 30, 20, 5);
        desk.addTenant(1, 20, 10, 10, 0);
        desk.addTenant(2, 60, 50, 40, 9);
        desk.addTenant(3, 20, 25, 15, 1);
        desk.addTenant(0, 5, 5, 5, 0);
        desk.addTenant(1, 100, 1, 1, 2);
        for (int tenant = 0; tenant < 6; tenant++) {
            desk.keepApart(tenant, (tenant + 1) % 6);
        }
        desk.setWindow(1, 12, 13);
        desk.move(1, 3);
        desk.move(3, 1);
        desk.pass(2);
        desk.move(0, 2);
        return desk;
    }

    /** A desk at this hour of the first day, or at 0 of the second one; its tenant follows. */
    static TenantPlacement followingAt(int hour) {
        int begin = hour == 0 ? 23 : hour - 1;
        TenantPlacement desk = shardsOf(300, 300);
        desk.addTenant(0, 20, 1, 1, 0);
        if (begin > 0) {
            desk.pass(begin);
        }
        desk.move(0, 1);
        desk.pass(1);
        return desk;
    }

    /** Hour by hour from the first one on, as a hand goes round a clock. */
    static int windowHours(int first, int end) {
        int hours = 1;
        int hour = first == 23 ? 0 : first + 1;
        while (hour != end && hour != first) {
            hour = hour == 23 ? 0 : hour + 1;
            hours++;
        }
        return hours;
    }

    static boolean isInWindow(int hour, int first, int end) {
        int at = first;
        for (int i = 0; i < windowHours(first, end); i++) {
            if (at == hour) {
                return true;
            }
            at = at == 23 ? 0 : at + 1;
        }
        return false;
    }

    /** A desk at the first hour of a day; its tenant has grown to this storage. */
    static TenantPlacement grownTo(int storage) {
        TenantPlacement desk = shardsOf(300, 300);
        int days = storage <= 100 ? 0 : (storage - 92) / 9;
        desk.addTenant(0, storage - 9 * days, 1, 1, 9);
        for (int day = 0; day < days; day++) {
            desk.pass(24);
        }
        return desk;
    }

    static void used(TenantPlacement desk, int shard, int storage, int load, int links) {
        int[] want = {storage, load, links};
        for (int measure = 0; measure < 3; measure++) {
            String of = "(" + shard + ", " + measure + ")";
            Check.due("used" + of, want[measure], desk.used(shard, measure));
            Check.due("usedByLooking" + of, want[measure], desk.usedByLooking(shard, measure));
        }
    }

    /** Both ways of finding the hours must tell the same, and what passing really tells. */
    static void hours(TenantPlacement desk, int tenant, int want) {
        Check.due("hoursLeft", want, desk.hoursLeft(tenant));
        Check.due("hoursByPassing", want, desk.hoursByPassing(tenant));
    }

    static void fewest(TenantPlacement desk, int want) {
        Check.due("fewestMoves", want, desk.fewestMoves());
        Check.due("fewestByTrying", want, desk.fewestByTrying());
    }

    static void plan(TenantPlacement desk, int... want) {
        for (int tenant = 0; tenant < want.length; tenant++) {
            Check.due("planned(" + tenant + ")", want[tenant], desk.planned(tenant));
        }
    }

    /** The hour of the day in which a tenant that follows from hour 3 on is cut over. */
    static int hourOfCutting(int first, int end) {
        TenantPlacement desk = following();
        desk.setWindow(0, first, end);
        for (int i = 0; i < 48; i++) {
            int hour = desk.time();
            if (desk.pass(1) == 1) {
                return hour;
            }
        }
        return -1;
    }

    static void refuseTenants(
            String call, Supplier<TenantPlacement> maker, NumberCall refused) {
        for (int tenant : NOWHERE) {
            Consumer<TenantPlacement> it = desk -> refused.on(desk, tenant);
            Check.refuses(call + " of tenant " + tenant, INDEX, maker, it);
        }
        int behind = maker.get().tenants();
        Check.refuses(call + " behind the last", INDEX, maker, desk -> refused.on(desk, behind));
    }

    static void refuseShards(
            String call, Supplier<TenantPlacement> maker, NumberCall refused) {
        for (int shard : NOWHERE) {
            Consumer<TenantPlacement> it = desk -> refused.on(desk, shard);
            Check.refuses(call + " of shard " + shard, INDEX, maker, it);
        }
        int behind = maker.get().shards();
        Check.refuses(call + " behind the last", INDEX, maker, desk -> refused.on(desk, behind));
    }

    static void refuseMeasures(
            String call, Supplier<TenantPlacement> maker, NumberCall refused) {
        for (int measure : new int[] {-1, 3, Integer.MIN_VALUE, Integer.MAX_VALUE}) {
            Consumer<TenantPlacement> it = desk -> refused.on(desk, measure);
            Check.refuses(call + " of measure " + measure, INDEX, maker, it);
        }
    }

    /** What a number with a range may be, and the numbers next to its edges that it may not. */
    static void range(
            int low,
            int high,
            Class<? extends RuntimeException> refusal,
            Supplier<TenantPlacement> maker,
            ReadBack call) {
        for (int number : new int[] {low, low + 1, high - 1, high}) {
            Check.due("in range " + number, number, call.of(maker.get(), number));
        }
        int[] wrong = {low - 1, high + 1, Integer.MIN_VALUE, Integer.MAX_VALUE};
        for (int number : wrong) {
            Check.refuses("out of range " + number, refusal, maker, d -> call.of(d, number));
        }
    }

    /** Each number below the count is known on the packed desk. */
    static void known(int count, NumberCall call) {
        for (int number = 0; number < count; number++) {
            int one = number;
            TenantPlacement desk = packed();
            String answer = State.outcome(() -> {
                call.on(desk, one);
                return "known";
            });
            boolean isKnown = !answer.equals("throws.IndexOutOfBoundsException");
            Check.due("number " + number + " is known", true, isKnown);
        }
    }

    private static void unknown(Supplier<TenantPlacement> maker, NumberCall call, int... numbers) {
        for (int number : numbers) {
            Check.refuses("number " + number, INDEX, maker, d -> call.on(d, number));
        }
    }

    /** No tenant on a desk without any, with two, and behind the last one that there may be. */
    static void noSuchTenant(NumberCall call) {
        int[] far = {-1, Integer.MIN_VALUE, Integer.MAX_VALUE};
        unknown(DeskChecks::empty, call, 0, -1, 1, 5, 6);
        unknown(() -> shardsOf(300, 300, 300, 300), call, 0, -1, 1, 5, 6);
        unknown(DeskChecks::copying, call, 2, 3, 5, 6);
        unknown(DeskChecks::copying, call, far);
        unknown(DeskChecks::packed, call, 6, 7);
        unknown(DeskChecks::packed, call, far);
    }

    static void noSuchShard(NumberCall call) {
        int[] far = {-1, Integer.MIN_VALUE, Integer.MAX_VALUE};
        unknown(DeskChecks::empty, call, 0, -1, 1, 3, 4);
        unknown(DeskChecks::copying, call, 2, 3, 4);
        unknown(DeskChecks::copying, call, far);
        unknown(DeskChecks::packed, call, 4, 5);
        unknown(DeskChecks::packed, call, far);
    }

    static void noSuchMeasure(NumberCall call) {
        int[] wrong = {-1, 3, Integer.MIN_VALUE, Integer.MAX_VALUE};
        unknown(DeskChecks::copying, call, wrong);
        unknown(DeskChecks::packed, call, wrong);
    }

    interface ReadBack {
        int of(TenantPlacement desk, int number);
    }

    interface NumberCall {
        void on(TenantPlacement desk, int number);
    }
}
