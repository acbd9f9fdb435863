import java.io.IOException;
import java.util.function.Supplier;

/** A test for each sentence of promises 1 to 8: a new desk, shards and tenants. */
public final class Promises1To8Test extends SentenceChecks {
    private Promises1To8Test() {
    }

    public static void main(String[] args) throws IOException {
        Doc.read(args[1]);
        Check.each(
            Promises1To8Test::newObject,
            Promises1To8Test::addShard,
            Promises1To8Test::setOpen,
            Promises1To8Test::setLimit,
            Promises1To8Test::addTenant,
            Promises1To8Test::addTenantRefused,
            Promises1To8Test::setSize,
            Promises1To8Test::setWindow,
            Promises1To8Test::keepApart,
            Promises1To8Test::keepApartRefused);
        Doc.allTested("Promise [1-8]");
        Check.end();
    }

    private static TenantPlacement apartInRing() {
        TenantPlacement desk = full();
        for (int tenant = 0; tenant < 6; tenant++) {
            desk.keepApart(tenant, (tenant + 1) % 6);
        }
        return desk;
    }

    private static void newObject() {
        says(1, "Creates a desk without shards and tenants, at the time 0.");
        TenantPlacement desk = empty();
        Check.due("shards", 0, desk.shards());
        Check.due("tenants", 0, desk.tenants());
        Check.due("time", 0, desk.time());
        Check.due("moves", 0, desk.moves());
        Check.due("switches", 0, desk.switches());
        Check.due("hours over", 0L, desk.hoursOver());
        Check.due("nobody is cut over", 0, desk.pass(48));
        Check.due("time goes on", 48, desk.time());
        Check.due("hours over then", 0L, desk.hoursOver());
        TenantPlacement other = empty();
        packed();
        Check.due("another one", State.all(empty()), State.all(other));
    }

    private static void addShard() {
        says(2, "Adds a shard.");
        TenantPlacement desk = empty();
        for (int shards = 1; shards <= 4; shards++) {
            desk.addShard(1, 2, 3);
            Check.due("shards", shards, desk.shards());
            used(desk, shards - 1, 0, 0, 0);
        }
        String[] names = {"storage", "load", "connections"};
        for (int m = 0; m < 3; m++) {
            int measure = m;
            says(2, "- `" + names[m] + "`: its limit of " + names[m] + ", 1 to 300");
            range(1, 300, ARGUMENT, Promises1To8Test::two, (d, limit) -> {
                int shard = d.addShard(measure == 0 ? limit : 1, measure == 1 ? limit : 1,
                    measure == 2 ? limit : 1);
                return d.setLimit(shard, measure, 150);
            });
        }
        says(2, "Returns the number of the shard.");
        TenantPlacement numbered = empty();
        for (int number = 0; number < 4; number++) {
            Check.due("number", number, numbered.addShard(300, 300, 300));
        }
        says(2, "Throws `IllegalArgumentException` if a limit is out of range");
        for (int wrong : new int[] {0, 301}) {
            Check.refuses("the first", ARGUMENT,
                Promises1To8Test::empty, d -> d.addShard(wrong, 1, 1));
            Check.refuses("the second", ARGUMENT,
                Promises1To8Test::empty, d -> d.addShard(1, wrong, 1));
            Check.refuses("the third", ARGUMENT,
                Promises1To8Test::empty, d -> d.addShard(1, 1, wrong));
            Check.refuses("each", ARGUMENT,
                Promises1To8Test::packed, d -> d.addShard(wrong, wrong, wrong));
        }
        says(2, "Throws `IllegalStateException` if there are 4 shards");
        Check.refuses("4 shards", STATE, Promises1To8Test::packed, d -> d.addShard(1, 1, 1));
        Check.due("3 shards", 3, shardsOf(1, 1, 1).addShard(1, 1, 1));
    }

    private static void setOpen() {
        says(3, "Opens or closes a shard.");
        TenantPlacement desk = two();
        desk.setOpen(1, false);
        Check.due("closed for a move", 'c', desk.reason(0, 1));
        Check.due("closed for a tenant", "throws.UnsupportedOperationException",
            State.outcome(() -> desk.addTenant(1, 1, 1, 1, 0)));
        Check.due("closed for plans", 1, desk.soundPlans());
        desk.setOpen(1, true);
        Check.due("open for a move", 'n', desk.reason(0, 1));
        Check.due("open for a tenant", 2, desk.addTenant(1, 1, 1, 1, 0));
        Check.due("open for plans", 8, desk.soundPlans());
        says(3, "Tenants that are served by it stay, and moves to it go on.");
        TenantPlacement moving = copying();
        moving.setOpen(0, false);
        moving.setOpen(1, false);
        String[] phases = {"c0", "c0", "c0", "f0", "d1", "d1", "-1", "-1"};
        for (int hour = 0; hour < phases.length; hour++) {
            Check.due("hour " + hour, phases[hour], "" + moving.phase(0) + moving.servedBy(0));
            Check.due("the other stays", 0, moving.servedBy(1));
            moving.pass(1);
        }
        shardNumber(3, (d, s) -> d.setOpen(s, false));
        says(3, "Returns whether it was open before.");
        for (int shard = 0; shard < 4; shard++) {
            TenantPlacement each = full();
            boolean[] calls = {true, false, false, true, true, false};
            boolean before = true;
            for (boolean isOpen : calls) {
                Check.due("before", before, each.setOpen(shard, isOpen));
                before = isOpen;
            }
        }
        says(3, "- `isOpen`: whether it is open from now on");
        TenantPlacement closed = full();
        closed.setOpen(3, false);
        Check.due("from now on", 'c', closed.reason(0, 3));
        closed.pass(48);
        Check.due("as long as it is not opened", 'c', closed.reason(0, 3));
    }

    private static void setLimit() {
        says(4, "Sets a limit of a shard, also to less than it uses.");
        int[] uses = {85, 40, 30};
        for (int measure = 0; measure < 3; measure++) {
            TenantPlacement desk = two();
            for (int limit : new int[] {300, uses[measure], uses[measure] - 1, 1}) {
                desk.setLimit(0, measure, limit);
                Check.due("over with " + limit, limit < uses[measure], desk.isOver(0));
                float share = (float) uses[measure] / (float) limit;
                Check.due("share of " + limit, share, desk.shareOf(0, measure));
                used(desk, 0, 85, 40, 30);
            }
            Check.due("the tenants stay", 2, desk.served(0));
            Check.due("not the other shard", 300, desk.setLimit(1, measure, 1));
            Check.due("nor another measure", 300, desk.setLimit(0, (measure + 1) % 3, 1));
        }
        shardAndMeasure(4, (d, s) -> d.setLimit(s, 0, 7), (d, m) -> d.setLimit(0, m, 7));
        says(4, "- `limit`: the limit, 1 to 300");
        for (int shard = 0; shard < 4; shard++) {
            for (int measure = 0; measure < 3; measure++) {
                int on = shard;
                int of = measure;
                range(1, 300, ARGUMENT, Promises1To8Test::packed, (d, limit) -> {
                    d.setLimit(on, of, limit);
                    return d.setLimit(on, of, 150);
                });
            }
        }
        says(4, "Returns the limit before.");
        TenantPlacement before = empty();
        before.addShard(1, 2, 300);
        Check.due("as added", 1, before.setLimit(0, 0, 300));
        Check.due("as set", 300, before.setLimit(0, 0, 300));
        Check.due("as set again", 300, before.setLimit(0, 0, 1));
        Check.due("load", 2, before.setLimit(0, 1, 1));
        Check.due("connections", 300, before.setLimit(0, 2, 1));
        says(4, "Throws `IllegalArgumentException` if the limit is out of range");
        for (int wrong : new int[] {0, 301}) {
            Check.refuses("limit " + wrong, ARGUMENT,
                Promises1To8Test::packed, d -> d.setLimit(3, 2, wrong));
        }
        Check.refuses("with no measure", INDEX,
            Promises1To8Test::packed, d -> d.setLimit(3, -1, 301));
    }

    private static void addTenant() {
        says(5, "Adds a tenant, which is served by a shard at once.");
        for (int shard = 0; shard < 4; shard++) {
            TenantPlacement desk = shardsOf(300, 300, 300, 300);
            desk.addTenant(shard, 3, 4, 5, 6);
            Check.due("tenants", 1, desk.tenants());
            Check.due("served by", shard, desk.servedBy(0));
            Check.due("served", 1, desk.served(shard));
            used(desk, shard, 3, 4, 5);
            used(desk, (shard + 1) % 4, 0, 0, 0);
            Check.due("no move", '-', desk.phase(0));
        }
        says(5, SHARD);
        for (int shard = 0; shard < 4; shard++) {
            TenantPlacement desk = shardsOf(1, 1, 1, 1);
            desk.addTenant(shard, 1, 1, 1, 0);
            Check.due("on it", shard, desk.servedBy(0));
        }
        String[] names = {"storage", "load", "connections"};
        for (int m = 0; m < 3; m++) {
            int measure = m;
            says(5, "- `" + names[m] + "`: its " + names[m] + ", 1 to 100");
            range(1, 100, ARGUMENT, Promises1To8Test::two, (d, size) -> {
                int tenant = d.addTenant(1, measure == 0 ? size : 1, measure == 1 ? size : 1,
                    measure == 2 ? size : 1, 0);
                return d.sizeOf(tenant, measure);
            });
        }
        says(5, "- `growth`: its growth, 0 to 9");
        range(0, 9, ARGUMENT, Promises1To8Test::two, (d, growth) -> {
            int tenant = d.addTenant(1, 1, 1, 1, growth);
            d.pass(24);
            return d.sizeOf(tenant, 0) - 1;
        });
        says(5, "Returns the number of the tenant.");
        TenantPlacement numbered = shardsOf(300, 300);
        for (int number = 0; number < 6; number++) {
            Check.due("number", number, numbered.addTenant(number % 2, 100, 1, 1, 0));
        }
    }

    private static void addTenantRefused() {
        says(5, INDEX_IF + "shard");
        noSuchShard((d, s) -> d.addTenant(s, 1, 1, 1, 0));
        says(5, "Throws `IllegalArgumentException` if a size or the growth is out of range");
        Supplier<TenantPlacement> wide = () -> shardsOf(300);
        for (int wrong : new int[] {0, 101}) {
            Check.refuses("storage", ARGUMENT, wide, d -> d.addTenant(0, wrong, 1, 1, 0));
            Check.refuses("load", ARGUMENT, wide, d -> d.addTenant(0, 1, wrong, 1, 0));
            Check.refuses("connections", ARGUMENT, wide, d -> d.addTenant(0, 1, 1, wrong, 0));
        }
        for (int wrong : new int[] {-1, 10}) {
            Check.refuses("growth", ARGUMENT, wide, d -> d.addTenant(0, 1, 1, 1, wrong));
        }
        says(5, "Throws `UnsupportedOperationException` if the shard is closed, or the tenant has "
            + "no room on it");
        Check.refuses("closed", OPERATION, () -> {
            TenantPlacement desk = two();
            desk.setOpen(0, false);
            return desk;
        }, d -> d.addTenant(0, 1, 1, 1, 0));
        for (int measure = 0; measure < 3; measure++) {
            int of = measure;
            Supplier<TenantPlacement> maker = () -> {
                TenantPlacement desk = shardsOf(300);
                desk.setLimit(0, of, 50);
                return desk;
            };
            int[] size = {1, 1, 1};
            size[of] = 50;
            TenantPlacement just = maker.get();
            Check.due("just room", 0, just.addTenant(0, size[0], size[1], size[2], 0));
            Check.due("no room beside it", "throws.UnsupportedOperationException",
                State.outcome(() -> just.addTenant(0, 1, 1, 1, 0)));
            size[of] = 51;
            Check.refuses("one too much of " + of, OPERATION,
                maker, d -> d.addTenant(0, size[0], size[1], size[2], 0));
        }
        says(5, "Throws `IllegalStateException` if there are 6 tenants");
        Check.refuses("6 tenants", STATE, Promises1To8Test::full, d -> d.addTenant(3, 1, 1, 1, 0));
        Check.refuses("6 and moves", STATE,
            Promises1To8Test::packed, d -> d.addTenant(0, 1, 1, 1, 0));
    }

    private static void setSize() {
        says(6, "Sets the size of a tenant by load or connections, also if shards are over then.");
        for (int measure = 1; measure <= 2; measure++) {
            TenantPlacement desk = copying();
            desk.setLimit(0, measure, 70);
            desk.setLimit(1, measure, 70);
            for (int size : new int[] {1, 60, 61, 70, 71, 100}) {
                desk.setSize(0, measure, size);
                Check.due("size", size, desk.sizeOf(0, measure));
                Check.due("use of the source", 10 + size, desk.used(0, measure));
                Check.due("use of the target", size, desk.used(1, measure));
                Check.due("source over with " + size, size > 60, desk.isOver(0));
                Check.due("target over with " + size, size > 70, desk.isOver(1));
            }
            Check.due("not storage", 45, desk.sizeOf(0, 0));
            Check.due("not the other", measure == 1 ? 20 : 30, desk.sizeOf(0, 3 - measure));
            Check.due("not another's", 10, desk.sizeOf(1, measure));
            Check.due("the move goes on", 1, desk.pass(4));
        }
        tenantNumber(6, (d, t) -> d.setSize(t, 1, 7));
        says(6, "- `measure`: the measure, 1 or 2");
        range(1, 2, ARGUMENT, Promises1To8Test::two, (d, measure) -> {
            d.setSize(0, measure, 77);
            return d.sizeOf(0, 1) == 77 ? 1 : d.sizeOf(0, 2) == 77 ? 2 : -1;
        });
        says(6, "- `size`: the size, 1 to 100");
        for (int measure = 1; measure <= 2; measure++) {
            int of = measure;
            range(1, 100, ARGUMENT, Promises1To8Test::packed, (d, size) -> {
                d.setSize(5, of, size);
                return d.sizeOf(5, of);
            });
        }
        says(6, "Returns the size before.");
        TenantPlacement before = two();
        Check.due("load as added", 30, before.setSize(0, 1, 100));
        Check.due("load as set", 100, before.setSize(0, 1, 100));
        Check.due("load as set again", 100, before.setSize(0, 1, 1));
        Check.due("connections as added", 20, before.setSize(0, 2, 1));
        Check.due("connections as set", 1, before.setSize(0, 2, 100));
        Check.due("of another", 10, before.setSize(1, 2, 5));
        says(6, "Throws `IllegalArgumentException` if the measure is neither 1 nor 2, or the size "
            + "is out of range");
        for (int wrong : new int[] {-1, 0, 3}) {
            Check.refuses("measure", ARGUMENT,
                Promises1To8Test::packed, d -> d.setSize(0, wrong, 5));
        }
        for (int wrong : new int[] {0, 101}) {
            Check.refuses("load", ARGUMENT, Promises1To8Test::packed, d -> d.setSize(0, 1, wrong));
            Check.refuses("connections", ARGUMENT,
                Promises1To8Test::packed, d -> d.setSize(0, 2, wrong));
        }
    }

    /** The hours of a day in which a tenant with this window is cut over, as bits. */
    private static int hoursOfWindow(int first, int end) {
        int hours = 0;
        for (int hour = 0; hour < 24; hour++) {
            TenantPlacement desk = followingAt(hour);
            desk.setWindow(0, first, end);
            hours |= desk.pass(1) << hour;
        }
        return hours;
    }

    private static void setWindow() {
        says(7, "Sets the window of a tenant.");
        TenantPlacement desk = full();
        desk.move(0, 1);
        desk.move(5, 1);
        desk.setWindow(0, 10, 11);
        Check.due("of this one", 3 + 7 + 3, desk.hoursLeft(0));
        Check.due("not of another", 6, desk.hoursLeft(5));
        desk.setWindow(0, 4, 4);
        Check.due("again", 6, desk.hoursLeft(0));
        tenantNumber(7, (d, t) -> d.setWindow(t, 3, 4));
        says(7, "- `first`: the first hour of the day that belongs to it, 0 to 23");
        range(0, 23, ARGUMENT, Promises1To8Test::following, (d, first) -> {
            d.setWindow(0, first, (first + 1) % 24);
            return (d.time() + d.hoursLeft(0) - 3) % 24;
        });
        Check.due("it belongs to it", 0x0000e0, hoursOfWindow(5, 8));
        says(7, "- `end`: the hour of the day that does not belong to it any more, 0 to 23");
        range(0, 23, ARGUMENT, Promises1To8Test::two, (d, end) -> {
            int hours = d.setWindow(0, 23, end);
            return hours == 24 ? 23 : hours - 1;
        });
        Check.due("it does not belong to it", 0x000001, hoursOfWindow(0, 1));
        Check.due("up to 23", 0x7fffff, hoursOfWindow(0, 23));
        Check.due("up to 0", 0x800000, hoursOfWindow(23, 0));
        Check.due("over 0", 0xc00003, hoursOfWindow(22, 2));
        Check.due("all but one", 0xfffffe, hoursOfWindow(1, 0));
        Check.due("all but another", 0xffffdf, hoursOfWindow(6, 5));
        Check.due("the whole day", 0xffffff, hoursOfWindow(0, 0));
        Check.due("the whole day from 23", 0xffffff, hoursOfWindow(23, 23));
        says(7, "Returns the number of hours of the window.");
        for (int first = 0; first < 24; first++) {
            for (int end = 0; end < 24; end++) {
                Check.due("from " + first + " to " + end,
                    windowHours(first, end), two().setWindow(1, first, end));
            }
        }
        says(7, "Throws `IllegalArgumentException` if an hour is out of range");
        for (int wrong : new int[] {-1, 24}) {
            for (int right : new int[] {0, 23}) {
                Check.refuses("first", ARGUMENT,
                    Promises1To8Test::following, d -> d.setWindow(0, wrong, right));
                Check.refuses("end", ARGUMENT,
                    Promises1To8Test::following, d -> d.setWindow(0, right, wrong));
            }
            Check.refuses("both", ARGUMENT,
                Promises1To8Test::following, d -> d.setWindow(0, wrong, wrong));
        }
    }

    private static void keepApart() {
        says(8, "Keeps two tenants apart from now on; if both are present on a shard, they stay "
            + "there.");
        TenantPlacement desk = following();
        desk.addTenant(1, 5, 5, 5, 0);
        desk.keepApart(0, 1);
        desk.keepApart(2, 0);
        Check.due("served on as before", 2, desk.served(0));
        Check.due("following as before", 'f', desk.phase(0));
        used(desk, 1, 50, 35, 25);
        Check.due("apart from now on", 'p', desk.reason(1, 1));
        Check.due("and cut over", 1, desk.pass(1));
        Check.due("beside the one that it is kept apart from", 2, desk.served(1));
        desk.pass(48);
        Check.due("they stay", 2, desk.served(1));
        Check.due("apart still", 'p', desk.reason(1, 1));
        fewest(desk, 1);
        says(8, "- `other`: the number of another tenant");
        known(6, (d, t) -> d.keepApart(2, t));
        for (int tenant = 0; tenant < 6; tenant++) {
            for (int other = 0; other < 6; other++) {
                if (tenant != other) {
                    TenantPlacement pair = full();
                    pair.keepApart(tenant, other);
                    // Of 4096 plans, those that have two tenants on the same shard are a fourth.
                    Check.due("plans", 3072, pair.soundPlans());
                    pair.move(tenant, 2);
                    Check.due("other barred", 'p', pair.reason(other, 2));
                    pair.fail(tenant);
                    pair.move(other, 2);
                    Check.due("barred for it", 'p', pair.reason(tenant, 2));
                }
            }
        }
        says(8, "- `tenant`: the number of a tenant");
        known(6, (d, t) -> d.keepApart(t, 2));
        says(8, "Returns the number of pairs.");
        TenantPlacement ring = full();
        for (int pairs = 1; pairs <= 6; pairs++) {
            Check.due("pairs", pairs, ring.keepApart(pairs - 1, pairs % 6));
        }
    }

    private static void keepApartRefused() {
        says(8, "Throws `IndexOutOfBoundsException` if there is no such tenant, for either");
        noSuchTenant((d, t) -> d.keepApart(t, 0));
        noSuchTenant((d, t) -> d.keepApart(0, t));
        noSuchTenant((d, t) -> d.keepApart(t, t));
        says(8, "Throws `IllegalArgumentException` if both are the same");
        for (int tenant = 0; tenant < 6; tenant++) {
            int same = tenant;
            Check.refuses("the same", ARGUMENT,
                Promises1To8Test::full, d -> d.keepApart(same, same));
            Check.refuses("the same, full", ARGUMENT,
                Promises1To8Test::packed, d -> d.keepApart(same, same));
        }
        says(8, "Throws `UnsupportedOperationException` if they are kept apart already");
        for (int tenant = 0; tenant < 6; tenant++) {
            int one = tenant;
            int next = (tenant + 1) % 6;
            Check.refuses("again", OPERATION,
                Promises1To8Test::apartInRing, d -> d.keepApart(one, next));
            Check.refuses("again, turned round", OPERATION,
                Promises1To8Test::apartInRing, d -> d.keepApart(next, one));
        }
        TenantPlacement desk = full();
        desk.keepApart(0, 1);
        Check.due("the first of a pair with a third", 2, desk.keepApart(2, 0));
        Check.due("the second of a pair with it", 3, desk.keepApart(1, 2));
        says(8, "Throws `IllegalStateException` if there are 6 pairs");
        for (int tenant = 0; tenant < 6; tenant++) {
            int one = tenant;
            for (int step = 2; step <= 4; step++) {
                int other = (tenant + step) % 6;
                Check.refuses("a seventh", STATE,
                    Promises1To8Test::apartInRing, d -> d.keepApart(one, other));
            }
        }
    }
}
