import java.io.IOException;
import java.util.Arrays;
import java.util.function.Supplier;

/** A test for each sentence of promises 19 to 34: places and use, plans, accounts. */
public final class Promises19To34Test extends SentenceChecks {
    private Promises19To34Test() {
    }

    public static void main(String[] args) throws IOException {
        Doc.read(args[1]);
        Check.each(
            Promises19To34Test::shards,
            Promises19To34Test::tenants,
            Promises19To34Test::servedBy,
            Promises19To34Test::sizeOf,
            Promises19To34Test::used,
            Promises19To34Test::usedByLooking,
            Promises19To34Test::isOver,
            Promises19To34Test::served,
            Promises19To34Test::fewestMoves,
            Promises19To34Test::fewestByTrying,
            Promises19To34Test::planned,
            Promises19To34Test::soundPlans,
            Promises19To34Test::switches,
            Promises19To34Test::hoursOver,
            Promises19To34Test::hoursOverOfMoves,
            Promises19To34Test::shareOf,
            Promises19To34Test::meanStorage);
        Doc.allTested("Promise (19|2\\d|3[0-4])");
        Check.end();
    }

    // ---- places and use

    private static void shards() {
        says(19, "Returns the number of shards.");
        TenantPlacement desk = empty();
        for (int shards = 0; shards < 4; shards++) {
            Check.due("shards", shards, desk.shards());
            State.outcome(() -> desk.addShard(0, 1, 1));
            Check.due("with one that was refused", shards, desk.shards());
            desk.addShard(1, 1, 1);
        }
        Check.due("the most", 4, desk.shards());
        State.outcome(() -> desk.addShard(1, 1, 1));
        Check.due("and no more", 4, desk.shards());
        desk.setOpen(3, false);
        Check.due("closed ones too", 4, desk.shards());
    }

    private static void tenants() {
        says(20, "Returns the number of tenants.");
        TenantPlacement desk = shardsOf(6);
        for (int tenants = 0; tenants < 6; tenants++) {
            Check.due("tenants", tenants, desk.tenants());
            State.outcome(() -> desk.addTenant(0, 7, 1, 1, 0));
            Check.due("with one that was refused", tenants, desk.tenants());
            desk.addTenant(0, 1, 1, 1, 0);
        }
        Check.due("the most", 6, desk.tenants());
        State.outcome(() -> desk.addTenant(0, 1, 1, 1, 0));
        Check.due("and no more", 6, desk.tenants());
        Check.due("moves do not count", 6, packed().tenants());
    }

    private static void servedBy() {
        says(21, "Returns the shard that serves a tenant.");
        int[] due = {0, 0, 0, 0, 1, 1, 1};
        TenantPlacement desk = copying();
        for (int hour = 0; hour < due.length; hour++) {
            Check.due("after " + hour, due[hour], desk.servedBy(0));
            Check.due("the other", 0, desk.servedBy(1));
            desk.pass(1);
        }
        says(21, "Returns the number of the shard.");
        int[] on = {0, 1, 2, 1, 0, 1};
        TenantPlacement many = packed();
        for (int tenant = 0; tenant < 6; tenant++) {
            Check.due("of " + tenant, on[tenant], many.servedBy(tenant));
        }
        many.setLimit(3, 2, 300);
        many.fail(3);
        Check.due("gone back", 3, many.servedBy(3));
        tenantNumber(21, (d, t) -> d.servedBy(t));
    }

    private static void sizeOf() {
        says(22, "Returns the size of a tenant by a measure.");
        TenantPlacement desk = two();
        int[][] due = {{45, 30, 20}, {40, 10, 10}};
        for (int tenant = 0; tenant < 2; tenant++) {
            for (int measure = 0; measure < 3; measure++) {
                Check.due("size", due[tenant][measure], desk.sizeOf(tenant, measure));
            }
        }
        says(22, "Returns the size.");
        desk.setSize(0, 1, 99);
        Check.due("as set", 99, desk.sizeOf(0, 1));
        desk.pass(48);
        Check.due("as grown", 55, desk.sizeOf(0, 0));
        Check.due("load does not grow", 99, desk.sizeOf(0, 1));
        Check.due("connections do not grow", 20, desk.sizeOf(0, 2));
        says(22, TENANT);
        known(6, (d, t) -> d.sizeOf(t, 0));
        says(22, MEASURE);
        known(3, (d, m) -> d.sizeOf(5, m));
        says(22, INDEX_IF + "tenant or no such measure");
        noSuchTenant((d, t) -> d.sizeOf(t, 0));
        noSuchTenant((d, t) -> d.sizeOf(t, 2));
        noSuchMeasure((d, m) -> d.sizeOf(0, m));
    }

    private interface Use {
        int of(TenantPlacement desk, int shard, int measure);
    }

    /** The whole life of a move, with a failed step at its end, and growth within it. */
    private static void checkUse(Use call) {
        int[][] due = {
            {85, 40, 30, 45, 30, 20}, {85, 40, 30, 45, 30, 20}, {90, 40, 30, 50, 30, 20},
            {90, 40, 30, 50, 30, 20}, {90, 10, 10, 50, 30, 20}, {90, 10, 10, 50, 30, 20},
        };
        TenantPlacement desk = two();
        desk.pass(22);
        desk.move(0, 1);
        for (int hour = 0; hour < due.length; hour++) {
            checkUse(call, desk, "after " + hour, due[hour]);
            desk.pass(1);
        }
        checkUse(call, desk, "clean", 40, 10, 10, 50, 30, 20);
        TenantPlacement back = cleaning();
        back.fail(0);
        checkUse(call, back, "gone back", 85, 40, 30, 45, 0, 0);
        back.setSize(0, 1, 100);
        checkUse(call, back, "of another size", 85, 110, 30, 45, 0, 0);
        back.pass(2);
        checkUse(call, back, "clean again", 85, 110, 30, 0, 0, 0);
        TenantPlacement failed = following();
        failed.fail(0);
        checkUse(call, failed, "failed", 85, 40, 30, 0, 0, 0);
        TenantPlacement most = shardsOf(300, 300);
        for (int tenant = 0; tenant < 6; tenant++) {
            most.addTenant(0, 50, 50, 50, 9);
        }
        for (int tenant = 0; tenant < 6; tenant++) {
            most.setSize(tenant, 2, 100);
        }
        for (int day = 0; day < 106; day++) {
            most.pass(24);
        }
        checkUse(call, most, "the most", 6 * 999, 6 * 50, 6 * 100, 0, 0, 0);
    }

    private static void checkUse(Use call, TenantPlacement desk, String when, int... due) {
        for (int shard = 0; shard < 2; shard++) {
            for (int measure = 0; measure < 3; measure++) {
                Check.due(when + ", shard " + shard + ", measure " + measure,
                    due[3 * shard + measure], call.of(desk, shard, measure));
            }
        }
    }

    private static void used() {
        says(23, "Returns what a shard uses of a measure, as it is kept.");
        checkUse((d, s, m) -> d.used(s, m));
        says(23, "Returns the use.");
        Check.due("nothing", 0, shardsOf(1).used(0, 0));
        shardAndMeasure(23, (d, s) -> d.used(s, 0), (d, m) -> d.used(3, m));
    }

    private static void usedByLooking() {
        says(24, "Returns the same, found by looking at all tenants.");
        checkUse((d, s, m) -> d.usedByLooking(s, m));
        TenantPlacement desk = packed();
        for (int hour = 0; hour < 48; hour++) {
            for (int shard = 0; shard < 4; shard++) {
                int use = desk.usedByLooking(shard, hour % 3);
                Check.due("the same as kept", desk.used(shard, hour % 3), use);
            }
            desk.pass(1);
        }
        says(24, "Returns the use.");
        Check.due("nothing", 0, shardsOf(1).usedByLooking(0, 0));
        shardAndMeasure(24, (d, s) -> d.usedByLooking(s, 0), (d, m) -> d.usedByLooking(3, m));
    }

    private static void isOver() {
        says(25, "Returns whether a shard is over.");
        int[] uses = {85, 40, 30};
        for (int measure = 0; measure < 3; measure++) {
            TenantPlacement desk = two();
            desk.setLimit(0, measure, uses[measure]);
            Check.due("not by what is just the limit of " + measure, false, desk.isOver(0));
            desk.setLimit(0, measure, uses[measure] - 1);
            Check.due("by one of " + measure, true, desk.isOver(0));
            Check.due("not another", false, desk.isOver(1));
        }
        TenantPlacement grown = two();
        grown.setLimit(0, 0, 85);
        grown.pass(23);
        Check.due("before it grows", false, grown.isOver(0));
        grown.pass(1);
        Check.due("grown", true, grown.isOver(0));
        says(25, "Returns whether it is.");
        boolean[] due = {true, true, true, true, true, true, false};
        TenantPlacement desk = copying();
        desk.setLimit(0, 0, 84);
        desk.setLimit(1, 1, 29);
        for (int hour = 0; hour < due.length; hour++) {
            Check.due("the source after " + hour, due[hour], desk.isOver(0));
            Check.due("the target after " + hour, true, desk.isOver(1));
            desk.pass(1);
        }
        Check.due("one that uses nothing", false, shardsOf(1).isOver(0));
        shardNumber(25, (d, s) -> d.isOver(s));
    }

    private static void served() {
        says(26, "Returns the number of tenants that a shard serves.");
        TenantPlacement desk = shardsOf(300, 300);
        for (int tenants = 0; tenants < 6; tenants++) {
            Check.due("tenants", tenants, desk.served(1));
            Check.due("elsewhere", 0, desk.served(0));
            desk.addTenant(1, 1, 1, 1, 0);
        }
        Check.due("the most", 6, desk.served(1));
        says(26, "Returns the number of tenants.");
        int[] due = {0, 0, 0, 0, 1, 1, 1};
        TenantPlacement moving = copying();
        for (int hour = 0; hour < due.length; hour++) {
            Check.due("the target after " + hour, due[hour], moving.served(1));
            Check.due("the source after " + hour, 2 - due[hour], moving.served(0));
            moving.pass(1);
        }
        TenantPlacement back = cleaning();
        back.fail(0);
        Check.due("gone back", 2, back.served(0));
        Check.due("gone back from", 0, back.served(1));
        shardNumber(26, (d, s) -> d.served(s));
    }

    // ---- plans

    private interface Fewest {
        int of(TenantPlacement desk);
    }

    /** From none to as many moves as there are tenants, and no plan that needs more. */
    private static void checkFewest(Fewest call) {
        Check.due("no shards", 0, call.of(empty()));
        Check.due("no tenants", 0, call.of(shardsOf(1, 1, 1, 1)));
        for (int moved = 0; moved <= 6; moved++) {
            TenantPlacement desk = full();
            desk.setLimit(0, moved % 3, moved == 6 ? 49 : 300 - 50 * moved);
            Check.due("moves that are needed", moved, call.of(desk));
            if (moved > 0 && moved < 6) {
                desk.setLimit(0, moved % 3, 300 - 50 * moved - 1);
                Check.due("one less of " + moved % 3, moved + 1, call.of(desk));
            }
        }
        TenantPlacement closed = full();
        closed.setOpen(0, false);
        Check.due("all of them", 6, call.of(closed));
        for (int shard = 1; shard < 4; shard++) {
            closed.setLimit(shard, 2, 100);
        }
        Check.due("with just room for them", 6, call.of(closed));
        closed.setLimit(3, 2, 99);
        Check.due("with one too little", "throws.NoSuchElementException",
            State.outcome(() -> call.of(closed)));
        TenantPlacement apart = full();
        for (int pair = 0; pair < 3; pair++) {
            apart.keepApart(2 * pair, 2 * pair + 1);
            Check.due("pairs", pair + 1, call.of(apart));
        }
        // A tenant that is moving counts where it is served.
        TenantPlacement moving = two();
        moving.setLimit(0, 0, 84);
        Check.due("one must go", 1, call.of(moving));
        moving.move(0, 1);
        for (int hour = 0; hour < 6; hour++) {
            Check.due("after " + hour, hour < 4 ? 1 : 0, call.of(moving));
            moving.pass(1);
        }
    }

    private static void fewestMoves() {
        says(27, "Returns the number of moves of the best plan, found by allowing no move, one "
            + "move, two moves and so on.");
        checkFewest(d -> d.fewestMoves());
        says(27, "Returns the number of moves.");
        Check.due("moves", 0, two().fewestMoves());
        noPlanIsSound(27, d -> d.fewestMoves());
    }

    private static void fewestByTrying() {
        says(28, "Returns the same number, found by trying all plans.");
        checkFewest(d -> d.fewestByTrying());
        says(28, "Returns the number of moves.");
        Check.due("moves", 0, two().fewestByTrying());
        noPlanIsSound(28, d -> d.fewestByTrying());
    }

    private static void planned() {
        says(29, "Returns the shard that the best plan tells for a tenant.");
        TenantPlacement desk = full();
        desk.setLimit(0, 0, 250);
        plan(desk, 0, 0, 0, 0, 0, 1);
        desk.setOpen(1, false);
        plan(desk, 0, 0, 0, 0, 0, 2);
        desk.keepApart(0, 3);
        plan(desk, 0, 0, 0, 2, 0, 0);
        desk.setLimit(0, 0, 200);
        plan(desk, 0, 0, 0, 2, 0, 2);
        desk.keepApart(5, 3);
        plan(desk, 0, 0, 0, 2, 0, 3);
        desk.setLimit(0, 0, 49);
        plan(desk, 2, 2, 2, 3, 2, 2);
        says(29, "Returns the number of the shard.");
        for (int shard = 0; shard < 4; shard++) {
            TenantPlacement one = full();
            for (int other = 0; other < 4; other++) {
                one.setOpen(other, other == shard);
            }
            plan(one, shard, shard, shard, shard, shard, shard);
        }
        // The same call answers the same again, whatever was asked for between.
        TenantPlacement again = brim();
        again.setLimit(0, 0, 99);
        for (int tenant : new int[] {2, 0, 1, 2}) {
            Check.due("of " + tenant, tenant == 2 ? 1 : 0, again.planned(tenant));
            again.soundPlans();
            again.fewestByTrying();
        }
        tenantNumber(29, (d, t) -> d.planned(t));
        noPlanIsSound(29, d -> d.planned(0));
    }

    private static void soundPlans() {
        says(30, "Returns the number of plans that are sound.");
        int plans = 1;
        TenantPlacement desk = shardsOf(300, 300, 300, 300);
        for (int tenants = 0; tenants < 6; tenants++) {
            Check.due("of " + tenants, plans, desk.soundPlans());
            desk.addTenant(0, 50, 50, 50, 0);
            plans *= 4;
        }
        Check.due("the most", 4096, desk.soundPlans());
        desk.setLimit(2, 1, 299);
        Check.due("not all on 2", 4095, desk.soundPlans());
        desk.setLimit(2, 1, 249);
        Check.due("nor all but one", 4095 - 6 * 3, desk.soundPlans());
        desk.setOpen(2, false);
        Check.due("none on 2", 729, desk.soundPlans());
        desk.keepApart(0, 5);
        Check.due("two apart", 3 * 2 * 81, desk.soundPlans());
        desk.setOpen(0, false);
        Check.due("two open", 2 * 16, desk.soundPlans());
        desk.setOpen(1, false);
        Check.due("one open", 0, desk.soundPlans());
        says(30, "Returns the number of plans, 1 without tenants.");
        Check.due("without shards", 1, empty().soundPlans());
        TenantPlacement closed = shardsOf(1);
        Check.due("with a shard", 1, closed.soundPlans());
        closed.setOpen(0, false);
        Check.due("with a closed one", 1, closed.soundPlans());
        closed.setOpen(0, true);
        closed.addTenant(0, 1, 1, 1, 0);
        Check.due("with a tenant", 1, closed.soundPlans());
        closed.setOpen(0, false);
        Check.due("with a tenant and no place for it", 0, closed.soundPlans());
    }

    // ---- accounts

    private static void switches() {
        says(31, "Returns how many times a tenant was cut over, or was served by the source again, "
            + "so far.");
        int[] due = {0, 0, 0, 0, 1, 1, 1};
        TenantPlacement desk = copying();
        for (int hour = 0; hour < due.length; hour++) {
            Check.due("after " + hour, due[hour], desk.switches());
            desk.pass(1);
        }
        TenantPlacement back = cleaning();
        for (int times = 1; times <= 4; times++) {
            back.fail(0);
            Check.due("back " + times, 1 + times, back.switches());
        }
        back.setOpen(0, false);
        back.setOpen(1, false);
        back.fail(0);
        Check.due("cleaning anew", 5, back.switches());
        back.pass(2);
        Check.due("over", 5, back.switches());
        TenantPlacement failed = following();
        failed.fail(0);
        Check.due("failed before", 0, failed.switches());
        says(31, "Returns the number of times.");
        TenantPlacement three = threeMoves();
        three.pass(3);
        Check.due("none", 0, three.switches());
        three.pass(1);
        Check.due("three in an hour", 3, three.switches());
        three.pass(2);
        three.move(0, 0);
        three.pass(48);
        Check.due("and one more", 4, three.switches());
    }

    private static void hoursOver() {
        says(32, "Returns the sum of the hours of all tenants, counted for each tenant and each "
            + "hour that passed, if the shard that served the tenant when the hour began was over "
            + "then.");
        int[] uses = {85, 40, 30};
        for (int measure = 0; measure < 3; measure++) {
            TenantPlacement desk = two();
            desk.addTenant(1, 1, 1, 1, 0);
            desk.setLimit(0, measure, uses[measure]);
            desk.pass(20);
            Check.due("as much as the limit of " + measure, 0L, desk.hoursOver());
            desk.setLimit(0, measure, uses[measure] - 1);
            Check.due("no hour has passed", 0L, desk.hoursOver());
            desk.pass(1);
            Check.due("each of two, not the third", 2L, desk.hoursOver());
            desk.pass(2);
            Check.due("each hour", 6L, desk.hoursOver());
            desk.setLimit(0, measure, uses[measure]);
            desk.pass(1);
            Check.due("not over", 6L, desk.hoursOver());
        }
        // What grows at the end of hour 23 is over from hour 24 on, also within one call.
        for (int hours = 23; hours <= 48; hours++) {
            TenantPlacement grown = two();
            grown.setLimit(0, 0, 85);
            grown.pass(hours);
            Check.due("grown, after " + hours, 2L * Math.max(0, hours - 24), grown.hoursOver());
        }
        says(32, "Returns the sum.");
        Check.due("none", 0L, empty().hoursOver());
        TenantPlacement most = shardsOf(300);
        for (int tenant = 0; tenant < 6; tenant++) {
            most.addTenant(0, 1, 1, 1, 0);
        }
        most.setLimit(0, 0, 1);
        for (int call = 0; call < 500; call++) {
            most.pass(48);
        }
        Check.due("the most", 6L * 500 * 48, most.hoursOver());
        int[] on = {0, 1, 2, 3, 2, 2};
        for (int over = 0; over < 4; over++) {
            TenantPlacement each = shardsOf(300, 300, 300, 300);
            long tenants = 0;
            for (int shard : on) {
                each.addTenant(shard, 9, 9, 9, 0);
                tenants += shard == over ? 1 : 0;
            }
            each.setLimit(over, 1, 8);
            each.pass(7);
            Check.due("tenants of shard " + over, 7 * tenants, each.hoursOver());
        }
    }

    /** The shard that counts is the one that serves, as it was before anything of the hour. */
    private static void hoursOverOfMoves() {
        long[] sourceLoad = {2, 4, 6, 8, 8, 8, 8};
        long[] sourceStorage = {2, 4, 6, 8, 9, 10, 10};
        long[] targetLoad = {0, 0, 0, 0, 1, 2, 3};
        TenantPlacement source = copying();
        TenantPlacement stored = copying();
        TenantPlacement target = copying();
        source.setLimit(0, 1, 39);
        stored.setLimit(0, 0, 84);
        target.setLimit(1, 1, 29);
        for (int hour = 0; hour < sourceLoad.length; hour++) {
            source.pass(1);
            stored.pass(1);
            target.pass(1);
            Check.due("source by load, hour " + hour, sourceLoad[hour], source.hoursOver());
            Check.due("source by storage, hour " + hour, sourceStorage[hour], stored.hoursOver());
            Check.due("target by load, hour " + hour, targetLoad[hour], target.hoursOver());
        }
        // Tenant 0 leaves in this hour; tenant 1 is looked at behind it, and counts all the same.
        TenantPlacement leaving = following();
        leaving.setLimit(0, 2, 29);
        leaving.pass(1);
        Check.due("both, as the hour began", 2L, leaving.hoursOver());
        TenantPlacement back = cleaning();
        back.fail(0);
        back.setLimit(0, 2, 29);
        back.setLimit(1, 0, 1);
        back.pass(1);
        Check.due("the source serves both again", 2L, back.hoursOver());
    }

    private static void shareOf() {
        says(33, "Returns the share of a limit that a shard uses.");
        TenantPlacement desk = two();
        Check.due("none", 0f, desk.shareOf(1, 0));
        desk.setLimit(0, 1, 80);
        Check.due("half", 0.5f, desk.shareOf(0, 1));
        desk.setLimit(0, 1, 40);
        Check.due("all", 1f, desk.shareOf(0, 1));
        desk.setLimit(0, 1, 20);
        Check.due("twice", 2f, desk.shareOf(0, 1));
        says(33, "Returns the use divided by the limit, both converted to float.");
        for (int measure = 0; measure < 3; measure++) {
            int[] uses = {85, 40, 30};
            for (int limit = 1; limit <= 300; limit++) {
                TenantPlacement each = two();
                each.setLimit(0, measure, limit);
                float due = (float) uses[measure] / (float) limit;
                Check.due("of " + limit, due, each.shareOf(0, measure));
            }
        }
        TenantPlacement third = shardsOf(3);
        third.addTenant(0, 1, 2, 3, 0);
        Check.due("a third, as a float", 0.33333334f, third.shareOf(0, 0));
        Check.due("two thirds, as a float", 0.6666667f, third.shareOf(0, 1));
        Check.due("of connections", 1f, third.shareOf(0, 2));
        Check.due("of what is copied there too", (float) 45 / (float) 300, copying().shareOf(1, 0));
        shardAndMeasure(33, (d, s) -> d.shareOf(s, 0), (d, m) -> d.shareOf(3, m));
    }

    private static void meanStorage() {
        says(34, "Returns the mean storage of the tenants.");
        TenantPlacement desk = shardsOf(300, 300, 300, 300);
        int sum = 0;
        for (int tenant = 0; tenant < 6; tenant++) {
            int storage = tenant == 0 ? 1 : 10 * tenant + 7;
            desk.addTenant(tenant % 4, storage, 100, 100, 0);
            sum += storage;
            double due = (double) sum / (double) (tenant + 1);
            Check.due("of " + (tenant + 1), due, desk.meanStorage());
        }
        says(34, "Returns the sum of their storage divided by their number, both converted to "
            + "double.");
        TenantPlacement thirds = shardsOf(300);
        thirds.addTenant(0, 1, 1, 1, 9);
        thirds.addTenant(0, 1, 1, 1, 0);
        thirds.addTenant(0, 2, 1, 1, 0);
        Check.due("a third more than one", 1.3333333333333333, thirds.meanStorage());
        thirds.pass(24);
        Check.due("grown", 13.0 / 3.0, thirds.meanStorage());
        Check.due("copied, it counts once", 42.5, copying().meanStorage());
        Check.due("cleaned, it counts once", 42.5, cleaning().meanStorage());
        says(34, "Throws `ArithmeticException` if there are no tenants");
        for (int shards = 0; shards <= 4; shards++) {
            int[] limits = new int[shards];
            Arrays.fill(limits, 300);
            Supplier<TenantPlacement> maker = () -> shardsOf(limits);
            Check.refuses("shards " + shards, ARITHMETIC, maker, d -> d.meanStorage());
        }
        TenantPlacement one = shardsOf(300);
        one.addTenant(0, 7, 1, 1, 0);
        Check.due("one tenant", 7.0, one.meanStorage());
    }
}
