import java.io.IOException;
import java.util.function.Consumer;
import java.util.function.Supplier;

/** A test for each sentence of the document's "Terms", in their order. */
public final class TermsTest extends DeskChecks {
    private TermsTest() {
    }

    public static void main(String[] args) throws IOException {
        Doc.read(args[1]);
        Check.each(
            TermsTest::otherCallsLook,
            TermsTest::servedExactlyOnce,
            TermsTest::threeMeasures,
            TermsTest::fourShards,
            TermsTest::limitsAndOpen,
            TermsTest::atMostSixTenants,
            TermsTest::sizesGrowthAndWindow,
            TermsTest::servedByOneShard,
            TermsTest::sixPairs,
            TermsTest::whatIsUsed,
            TermsTest::over,
            TermsTest::room,
            TermsTest::present,
            TermsTest::barred,
            TermsTest::threeMovesAtATime,
            TermsTest::threePhases,
            TermsTest::hoursOfCopying,
            TermsTest::followingAndCleaning,
            TermsTest::moveIsOver,
            TermsTest::hourOfTheDay,
            TermsTest::hourPasses,
            TermsTest::onePhaseAnHour,
            TermsTest::growth,
            TermsTest::failsBeforeCutting,
            TermsTest::failsInCleaning,
            TermsTest::cleansAnew,
            TermsTest::planHasAShardForEach,
            TermsTest::soundPlan,
            TermsTest::movesOfAPlan,
            TermsTest::planWithoutTenants,
            TermsTest::bestPlan,
            TermsTest::thrownChangesNothing,
            TermsTest::firstDocumentedIsThrown);
        Doc.allTested("Terms");
        Check.end();
    }

    private static void says(String sentence) {
        Doc.tests("Terms", sentence);
    }

    // ---- calls

    private static void look(TenantPlacement desk, int tenant, int shard, int measure) {
        State.outcome(() -> desk.reason(tenant, shard));
        State.outcome(() -> desk.phase(tenant));
        State.outcome(() -> desk.targetOf(tenant));
        State.outcome(() -> desk.hoursLeft(tenant));
        State.outcome(() -> desk.hoursByPassing(tenant));
        State.outcome(() -> desk.servedBy(tenant));
        State.outcome(() -> desk.sizeOf(tenant, measure));
        State.outcome(() -> desk.used(shard, measure));
        State.outcome(() -> desk.usedByLooking(shard, measure));
        State.outcome(() -> desk.isOver(shard));
        State.outcome(() -> desk.served(shard));
        State.outcome(() -> desk.fewestMoves());
        State.outcome(() -> desk.fewestByTrying());
        State.outcome(() -> desk.planned(tenant));
        State.outcome(() -> desk.shareOf(shard, measure));
        State.outcome(() -> desk.meanStorage());
        desk.time();
        desk.moves();
        desk.shards();
        desk.tenants();
        desk.soundPlans();
        desk.switches();
        desk.hoursOver();
    }

    private static void otherCallsLook() {
        says("Its calls are those of an operator: shards and tenants are added, moves are begun, "
            + "hours pass, steps fail, and all other calls look.");
        for (int number = -1; number <= 6; number++) {
            TenantPlacement desk = packed();
            look(desk, number, number, number);
            Check.due("looking at " + number, State.all(packed()), State.all(desk));
            TenantPlacement none = empty();
            look(none, number, number, number);
            Check.due("looking at none", State.all(empty()), State.all(none));
        }
    }

    private static void servedOnce(TenantPlacement desk) {
        int[] served = new int[desk.shards()];
        for (int tenant = 0; tenant < desk.tenants(); tenant++) {
            int by = desk.servedBy(tenant);
            boolean isShard = 0 <= by && by < served.length;
            Check.due("it is a shard", true, isShard);
            served[by]++;
        }
        for (int shard = 0; shard < served.length; shard++) {
            Check.due("served by " + shard, served[shard], desk.served(shard));
        }
    }

    private static void servedExactlyOnce() {
        says("A tenant is served by exactly one shard at any time.");
        TenantPlacement desk = packed();
        servedOnce(desk);
        for (int hour = 0; hour < 8; hour++) {
            desk.pass(1);
            servedOnce(desk);
        }
        desk = packed();
        desk.setLimit(3, 2, 300);
        for (int tenant : new int[] {0, 1, 3, 3}) {
            desk.fail(tenant);
            servedOnce(desk);
        }
        desk.setOpen(2, false);
        servedOnce(desk);
    }

    // ---- measures, shards and tenants

    private static void threeMeasures() {
        says("There are three measures: 0 storage, 1 load, 2 connections.");
        TenantPlacement desk = empty();
        desk.addShard(30, 40, 50);
        desk.addTenant(0, 3, 5, 7, 0);
        int[] limits = {30, 40, 50};
        int[] sizes = {3, 5, 7};
        for (int measure = 0; measure <= 2; measure++) {
            Check.due("limit", limits[measure], desk.setLimit(0, measure, limits[measure]));
            Check.due("size", sizes[measure], desk.sizeOf(0, measure));
            Check.due("use", sizes[measure], desk.used(0, measure));
            Check.due("use by looking", sizes[measure], desk.usedByLooking(0, measure));
            float share = (float) sizes[measure] / (float) limits[measure];
            Check.due("share", share, desk.shareOf(0, measure));
        }
        noSuchMeasure((d, m) -> d.setLimit(0, m, 100));
        noSuchMeasure((d, m) -> d.sizeOf(0, m));
        noSuchMeasure((d, m) -> d.used(0, m));
        noSuchMeasure((d, m) -> d.usedByLooking(0, m));
        noSuchMeasure((d, m) -> d.shareOf(0, m));
    }

    private static void fourShards() {
        says("At most 4 shards are numbered from 0 in the order in which they were added.");
        TenantPlacement desk = empty();
        for (int number = 0; number < 4; number++) {
            State.outcome(() -> desk.addShard(301, 1, 1));
            Check.due("number", number, desk.addShard(11 + number, 1, 1));
            Check.due("shards", number + 1, desk.shards());
        }
        Check.due("no fifth", "throws.IllegalStateException",
            State.outcome(() -> desk.addShard(1, 1, 1)));
        Check.due("still four", 4, desk.shards());
        for (int number = 0; number < 4; number++) {
            Check.due("in their order", 11 + number, desk.setLimit(number, 0, 1));
        }
        desk.setOpen(0, false);
        Check.due("a closed one has a place", "throws.IllegalStateException",
            State.outcome(() -> desk.addShard(1, 1, 1)));
    }

    private static void limitsAndOpen() {
        says("A shard has a limit from 1 to 300 for each measure, and is open, as at first, "
            + "or closed.");
        for (int m = 0; m < 3; m++) {
            int measure = m;
            range(1, 300, ARGUMENT, TermsTest::two, (d, limit) -> {
                int shard = d.addShard(measure == 0 ? limit : 9, measure == 1 ? limit : 9,
                    measure == 2 ? limit : 9);
                return d.setLimit(shard, measure, 5);
            });
            range(1, 300, ARGUMENT, TermsTest::two, (d, limit) -> {
                d.setLimit(1, measure, limit);
                return d.setLimit(1, measure, 5);
            });
        }
        for (int shard = 0; shard < 4; shard++) {
            TenantPlacement desk = full();
            Check.due("open at first", true, desk.setOpen(shard, false));
            Check.due("closed", false, desk.setOpen(shard, false));
            Check.due("closed still", false, desk.setOpen(shard, true));
            Check.due("open", true, desk.setOpen(shard, true));
            Check.due("another", true, desk.setOpen((shard + 1) % 4, true));
        }
    }

    private static void atMostSixTenants() {
        says("At most 6 tenants are numbered from 0 in the order in which they were added.");
        TenantPlacement desk = shardsOf(300);
        for (int number = 0; number < 6; number++) {
            State.outcome(() -> desk.addTenant(0, 1, 1, 101, 0));
            Check.due("number", number, desk.addTenant(0, 11 + number, 1, 1, 0));
            Check.due("tenants", number + 1, desk.tenants());
        }
        Check.due("no seventh", "throws.IllegalStateException",
            State.outcome(() -> desk.addTenant(0, 1, 1, 1, 0)));
        Check.due("still six", 6, desk.tenants());
        for (int number = 0; number < 6; number++) {
            Check.due("in their order", 11 + number, desk.sizeOf(number, 0));
        }
    }

    private static void sizesGrowthAndWindow() {
        says("A tenant has a size by each measure, 1 to 100 when it is added, a growth from 0 to "
            + "9, and a window, which consists of the hours of the day from a first one up to, but "
            + "not including, another one, going on from 23 to 0 if the first one is greater, and "
            + "which is the whole day if both are the same, as at first.");
        for (int m = 0; m < 3; m++) {
            int measure = m;
            range(1, 100, ARGUMENT, () -> shardsOf(300), (d, size) -> {
                int tenant = d.addTenant(0, measure == 0 ? size : 9, measure == 1 ? size : 9,
                    measure == 2 ? size : 9, 0);
                return d.sizeOf(tenant, measure);
            });
        }
        range(0, 9, ARGUMENT, () -> shardsOf(300), (d, growth) -> {
            int tenant = d.addTenant(0, 100, 100, 100, growth);
            d.pass(24);
            return d.sizeOf(tenant, 0) - 100;
        });
        for (int hour = 0; hour < 24; hour++) {
            Check.due("at first, " + hour, 1, followingAt(hour).pass(1));
            for (int first = 0; first < 24; first++) {
                for (int end = 0; end < 24; end++) {
                    TenantPlacement desk = followingAt(hour);
                    int length = desk.setWindow(0, first, end);
                    String window = first + " to " + end;
                    Check.due("hours from " + window, windowHours(first, end), length);
                    int cut = isInWindow(hour, first, end) ? 1 : 0;
                    Check.due(hour + " in the window from " + window, cut, desk.pass(1));
                }
            }
        }
    }

    private static void servedByOneShard() {
        says("It is served by one shard.");
        for (int shard = 0; shard < 4; shard++) {
            TenantPlacement desk = shardsOf(10, 10, 10, 10);
            desk.addTenant(shard, 1, 1, 1, 0);
            Check.due("served by", shard, desk.servedBy(0));
            for (int other = 0; other < 4; other++) {
                Check.due("served there", other == shard ? 1 : 0, desk.served(other));
            }
        }
    }

    private static void sixPairs() {
        says("At most 6 pairs of tenants are kept apart.");
        TenantPlacement desk = full();
        int pairs = 0;
        for (int tenant = 0; tenant < 4; tenant++) {
            for (int other = tenant + 1; other < 4; other++) {
                pairs++;
                Check.due("pair", pairs, desk.keepApart(tenant, other));
            }
        }
        Check.due("six pairs", 6, pairs);
        Check.due("no seventh", "throws.IllegalStateException",
            State.outcome(() -> desk.keepApart(4, 5)));
        Check.due("four apart, two anywhere", 24 * 16, desk.soundPlans());
    }

    // ---- use

    private static void whatIsUsed() {
        says("What a shard uses of a measure is the sum of the sizes of all tenants that it "
            + "serves, and of all tenants that are being copied to it or follow on it; of storage, "
            + "also of all tenants whose move is cleaning it.");
        TenantPlacement desk = shardsOf(300, 300, 300, 300);
        for (int shard = 0; shard < 4; shard++) {
            used(desk, shard, 0, 0, 0);
        }
        desk.addTenant(0, 20, 1, 2, 0);
        desk.addTenant(0, 40, 4, 8, 0);
        desk.addTenant(2, 60, 16, 32, 0);
        used(desk, 0, 60, 5, 10);
        used(desk, 1, 0, 0, 0);
        used(desk, 2, 60, 16, 32);
        desk.move(0, 1);
        desk.move(1, 1);
        desk.move(2, 0);
        // Copying: all three count on both sides. Then tenant 0 follows, and still does.
        for (int hour = 0; hour < 2; hour++) {
            used(desk, 0, 120, 21, 42);
            used(desk, 1, 60, 5, 10);
            used(desk, 2, 60, 16, 32);
            desk.pass(1);
        }
        // Tenant 0 is cut over; tenant 1 follows; tenant 2 is copied for an hour more.
        used(desk, 0, 120, 20, 40);
        used(desk, 1, 60, 5, 10);
        desk.pass(1);
        // Shard 0 is cleaned for two tenants, while a third one follows on it.
        used(desk, 0, 120, 16, 32);
        used(desk, 1, 60, 5, 10);
        used(desk, 2, 60, 16, 32);
        desk.pass(1);
        used(desk, 0, 100, 16, 32);
        used(desk, 2, 60, 0, 0);
        desk.pass(1);
        used(desk, 0, 60, 16, 32);
        used(desk, 2, 60, 0, 0);
        desk.pass(1);
        used(desk, 0, 60, 16, 32);
        used(desk, 1, 60, 5, 10);
        used(desk, 2, 0, 0, 0);
        used(desk, 3, 0, 0, 0);
    }

    private static void over() {
        says("A shard is over if it uses more of a measure than its limit.");
        int[] uses = {85, 40, 30};
        for (int measure = 0; measure < 3; measure++) {
            TenantPlacement desk = two();
            desk.setLimit(0, measure, uses[measure] + 1);
            Check.due("one less than its limit of " + measure, false, desk.isOver(0));
            desk.setLimit(0, measure, uses[measure]);
            Check.due("as much as its limit of " + measure, false, desk.isOver(0));
            desk.setLimit(0, measure, uses[measure] - 1);
            Check.due("one more than its limit of " + measure, true, desk.isOver(0));
            desk.setLimit(1, measure, 1);
            Check.due("using nothing", false, desk.isOver(1));
        }
    }

    private static void room() {
        says("A tenant has room on a shard if, for each measure, what the shard uses plus the size "
            + "of the tenant is not greater than the limit.");
        for (int m = 0; m < 3; m++) {
            int measure = m;
            int[] size = {10, 11, 12};
            Supplier<TenantPlacement> maker = () -> {
                TenantPlacement desk = two();
                desk.addTenant(1, 20, 21, 22, 0);
                return desk;
            };
            int brim = 20 + size[measure] + measure;
            TenantPlacement desk = maker.get();
            desk.addTenant(0, size[0], size[1], size[2], 0);
            desk.setLimit(1, measure, brim);
            Check.due("just room of " + measure, 'n', desk.reason(3, 1));
            desk.setLimit(1, measure, brim - 1);
            Check.due("one too little of " + measure, 'r', desk.reason(3, 1));
            TenantPlacement added = maker.get();
            added.setLimit(1, measure, brim);
            Check.due("added", 3, added.addTenant(1, size[0], size[1], size[2], 0));
            Check.refuses("added with one too little of " + measure, OPERATION, () -> {
                TenantPlacement tight = maker.get();
                tight.setLimit(1, measure, brim - 1);
                return tight;
            }, d -> d.addTenant(1, size[0], size[1], size[2], 0));
        }
        // What is copied to a shard, and the storage that is cleaned there, takes room.
        TenantPlacement copied = copying();
        copied.setLimit(1, 2, 29);
        Check.due("beside one that is copied there", 'r', copied.reason(1, 1));
        copied.setLimit(1, 2, 30);
        Check.due("just beside it", 'n', copied.reason(1, 1));
        TenantPlacement cleaned = cleaning();
        cleaned.setLimit(0, 0, 100);
        cleaned.setLimit(0, 1, 20);
        Check.due("fifteen free", 2, cleaned.addTenant(0, 15, 10, 1, 0));
        Check.due("none free", "throws.UnsupportedOperationException",
            State.outcome(() -> cleaned.addTenant(0, 1, 1, 1, 0)));
    }

    // ---- presence

    /** Two tenants that are kept apart, each alone on a shard; a third shard is free. */
    private static TenantPlacement apart() {
        TenantPlacement desk = shardsOf(300, 300, 300);
        desk.addTenant(0, 40, 10, 10, 0);
        desk.addTenant(1, 40, 10, 10, 0);
        desk.keepApart(0, 1);
        return desk;
    }

    private static void present() {
        says("A tenant is present on the shard that serves it, and on one to which it is being "
            + "copied or on which it follows.");
        TenantPlacement desk = apart();
        String[] reasons = {"psn", "psp", "psp", "psp", "nsp", "nsp", "nsp"};
        desk.move(0, 2);
        desk.fail(0);
        for (int hour = 0; hour < reasons.length; hour++) {
            StringBuilder seen = new StringBuilder();
            for (int shard = 0; shard < 3; shard++) {
                seen.append(desk.reason(1, shard));
            }
            Check.due("barred for the other after " + hour, reasons[hour], seen.toString());
            if (hour == 0) {
                desk.move(0, 2);
            } else {
                desk.pass(1);
            }
        }
        Check.due("over", '-', desk.phase(0));
        TenantPlacement back = apart();
        back.move(0, 2);
        back.pass(3);
        back.fail(0);
        Check.due("present on the source again", 'p', back.reason(1, 0));
        Check.due("not on the former target", 'n', back.reason(1, 2));
    }

    private static void barred() {
        says("A shard is barred for a tenant if another tenant from which it is kept apart is "
            + "present on it.");
        TenantPlacement desk = apart();
        desk.addTenant(2, 40, 10, 10, 0);
        Check.due("one way", 'p', desk.reason(0, 1));
        Check.due("the other way", 'p', desk.reason(1, 0));
        Check.due("not for a third one", 'n', desk.reason(2, 0));
        Check.due("nor by it", 'n', desk.reason(0, 2));
        Check.due("not by itself", 's', desk.reason(0, 0));
        TenantPlacement highest = full();
        highest.keepApart(5, 0);
        highest.move(5, 3);
        Check.due("by the last one", 'p', highest.reason(0, 3));
        Check.due("not for the one before", 'n', highest.reason(4, 3));
        TenantPlacement together = two();
        together.keepApart(0, 1);
        Check.due("both present on a shard, another is free", 'n', together.reason(0, 1));
    }

    // ---- moves

    private static void threeMovesAtATime() {
        says("At most 3 moves are under way at a time, each of another tenant.");
        TenantPlacement desk = full();
        for (int tenant = 0; tenant < 3; tenant++) {
            Check.due("moves", tenant, desk.moves());
            Check.due("one more", 3, desk.move(tenant, tenant + 1));
            for (int shard = 0; shard < 4; shard++) {
                int to = shard;
                int moving = tenant;
                Check.due("no second one of a tenant", "throws.UnsupportedOperationException",
                    State.outcome(() -> desk.move(moving, to)));
            }
        }
        Check.due("three moves", 3, desk.moves());
        for (int hour = 0; hour < 6; hour++) {
            Check.due("no fourth", "throws.IllegalStateException",
                State.outcome(() -> desk.move(5, 1)));
            desk.pass(1);
        }
        Check.due("none", 0, desk.moves());
        Check.due("a new one", 3, desk.move(5, 1));
        Check.due("of another", 3, desk.move(4, 1));
        Check.due("and a third", 3, desk.move(3, 1));
        desk.fail(4);
        Check.due("two", 2, desk.moves());
        Check.due("a third again", 3, desk.move(4, 2));
    }

    private static void threePhases() {
        says("A move has a source, which serves the tenant when it begins, and a target, and goes "
            + "through three phases.");
        TenantPlacement desk = shardsOf(300, 300, 300);
        desk.addTenant(2, 40, 10, 10, 0);
        desk.move(0, 1);
        StringBuilder seen = new StringBuilder();
        for (int hour = 0; hour < 6; hour++) {
            seen.append(desk.phase(0)).append(desk.servedBy(0));
            if (desk.phase(0) != '-') {
                Check.due("target", 1, desk.targetOf(0));
            }
            desk.pass(1);
        }
        Check.due("phases and servers", "c2c2f2d1d1-1", seen.toString());
    }

    private static void hoursOfCopying() {
        says("Copying takes as many hours as the storage of the tenant when the move begins, "
            + "divided by 20, rounded up.");
        for (int storage = 1; storage <= 300; storage++) {
            int hours = 0;
            for (int left = storage; left > 0; left -= 20) {
                hours++;
            }
            TenantPlacement desk = grownTo(storage);
            Check.due("storage", storage, desk.sizeOf(0, 0));
            Check.due("copying " + storage, hours, desk.move(0, 1));
            if (hours > 1) {
                desk.pass(hours - 1);
            }
            Check.due("still copying " + storage, 'c', desk.phase(0));
            desk.pass(1);
            Check.due("copied " + storage, 'f', desk.phase(0));
        }
        TenantPlacement grows = shardsOf(300, 300);
        grows.addTenant(0, 40, 1, 1, 9);
        grows.pass(23);
        Check.due("before it grows", 2, grows.move(0, 1));
        grows.pass(2);
        Check.due("what it grows in copying takes no hour", 'f', grows.phase(0));
        Check.due("though it has grown", 49, grows.sizeOf(0, 0));
    }

    private static void followingAndCleaning() {
        says("Then the tenant follows on the target until it is cut over, which makes the target "
            + "the shard that serves it; and then the source is cleaned, which takes 2 hours.");
        TenantPlacement desk = following();
        desk.setWindow(0, 2, 3);
        desk.pass(23);
        Check.due("follows as long as it takes", 'f', desk.phase(0));
        Check.due("source", 0, desk.servedBy(0));
        used(desk, 1, 50, 30, 20);
        Check.due("cut over", 1, desk.pass(1));
        Check.due("target", 1, desk.servedBy(0));
        Check.due("cleaning", 'd', desk.phase(0));
        used(desk, 0, 90, 10, 10);
        desk.pass(1);
        Check.due("an hour of cleaning", 'd', desk.phase(0));
        used(desk, 0, 90, 10, 10);
        desk.pass(1);
        Check.due("two hours", '-', desk.phase(0));
        used(desk, 0, 40, 10, 10);
    }

    private static void moveIsOver() {
        says("Then the move is over.");
        TenantPlacement desk = cleaning();
        desk.pass(2);
        Check.due("phase", '-', desk.phase(0));
        Check.due("moves", 0, desk.moves());
        for (String name : new String[] {"targetOf", "hoursLeft", "hoursByPassing"}) {
            Check.due(name, "throws.NoSuchElementException", State.outcome(() ->
                name.equals("targetOf") ? desk.targetOf(0)
                    : name.equals("hoursLeft") ? desk.hoursLeft(0) : desk.hoursByPassing(0)));
        }
        Check.due("fail", "throws.IllegalStateException", State.outcome(() -> desk.fail(0)));
        Check.due("back again", 3, desk.move(0, 0));
        Check.due("cut over again", 1, desk.pass(6));
        Check.due("served by the first", 0, desk.servedBy(0));
    }

    // ---- hours

    private static void hourOfTheDay() {
        says("Time is counted in hours from 0; the hour of the day is the remainder of the time "
            + "by 24.");
        Check.due("at first", 0, empty().time());
        for (int days : new int[] {0, 1, 2, 10}) {
            for (int hour = 0; hour < 24; hour++) {
                TenantPlacement desk = two();
                for (int day = 0; day < days; day++) {
                    desk.pass(24);
                }
                desk.move(1, 1);
                desk.pass(2);
                desk.setWindow(1, hour, (hour + 1) % 24);
                int waited = 0;
                while (waited < 30 && desk.pass(1) == 0) {
                    waited++;
                }
                int due = hour < 2 ? hour + 22 : hour - 2;
                Check.due("hours to the hour " + hour, due, waited);
                Check.due("the time then", 24 * days + 2 + due + 1, desk.time());
            }
        }
    }

    private static void hourPasses() {
        says("When an hour passes, each tenant with a move is looked at, in ascending order: if it "
            + "is being copied, the hours that are left decrease by 1, and when none are left, it "
            + "follows; if it follows already, and the hour of the day is in its window, it is cut "
            + "over; if its move is cleaning, the hours that are left decrease by 1, and when none "
            + "are left, the move is over.");
        TenantPlacement desk = packed();
        // Tenant 0 has three hours of copying left, 1 waits for hour 12, 3 has two of cleaning.
        String[] phases = {"cf-d--", "cf-d--", "cf----", "ff----", "df----", "df----", "-f----"};
        for (int hour = 0; hour < phases.length; hour++) {
            StringBuilder seen = new StringBuilder();
            for (int tenant = 0; tenant < 6; tenant++) {
                seen.append(desk.phase(tenant));
            }
            Check.due("phases after " + hour, phases[hour], seen.toString());
            desk.pass(1);
        }
        Check.due("before the window", 0, desk.pass(3));
        Check.due("in the window", 1, desk.pass(1));
        Check.due("in the first hour of it", 13, desk.time());
        TenantPlacement three = threeMoves();
        Check.due("no one yet", 0, three.pass(3));
        Check.due("each one in the same hour", 3, three.pass(1));
        three.pass(1);
        Check.due("all still cleaning", 3, three.moves());
        three.pass(1);
        Check.due("all over in the same hour", 0, three.moves());
    }

    private static void onePhaseAnHour() {
        says("Each tenant goes on by one phase in an hour at most.");
        TenantPlacement desk = shardsOf(300, 300);
        desk.addTenant(0, 1, 1, 1, 0);
        desk.move(0, 1);
        Check.due("not cut over when it begins to follow", 0, desk.pass(1));
        Check.due("it follows", 'f', desk.phase(0));
        Check.due("cut over", 1, desk.pass(1));
        Check.due("it is not cleaned in the hour of cutting over", 2, desk.hoursLeft(0));
        desk.pass(1);
        Check.due("cleaning", 'd', desk.phase(0));
        TenantPlacement missed = shardsOf(300, 300);
        missed.addTenant(0, 1, 1, 1, 0);
        missed.setWindow(0, 0, 1);
        missed.move(0, 1);
        Check.due("the window was while it was copied", 0, missed.pass(24));
        Check.due("so it waits for the next one", 1, missed.pass(1));
    }

    private static void growth() {
        says("Then the time increases by 1, and if the hour of the day is 0 then, the storage of "
            + "each tenant increases by its growth, but to at most 999.");
        Check.due("hour 23 comes before 24", 1, followingAt(23).pass(1));
        TenantPlacement desk = full();
        TenantPlacement each = shardsOf(300);
        for (int tenant = 0; tenant < 6; tenant++) {
            each.addTenant(0, 10 + tenant, 10, 10, tenant + 4);
        }
        for (int hour = 1; hour <= 49; hour++) {
            each.pass(1);
            desk.pass(1);
            int sum = 0;
            for (int tenant = 0; tenant < 6; tenant++) {
                int storage = 10 + tenant + hour / 24 * (tenant + 4);
                sum += storage;
                Check.due("at " + hour, storage, each.sizeOf(tenant, 0));
                Check.due("without growth", 50, desk.sizeOf(tenant, 0));
            }
            boolean isAtMidnight = (hour + 1) % 24 <= 2;
            if (isAtMidnight) {
                used(each, 0, sum, 60, 60);
            }
        }
        // 9 and 110 days of 9 are 999; 10 are one more; 2 stay below it for another day.
        for (int storage : new int[] {9, 10, 2, 3}) {
            TenantPlacement most = shardsOf(300);
            most.addTenant(0, storage, 1, 1, 9);
            for (int day = 0; day < 54; day++) {
                most.pass(48);
            }
            Check.due("108 days", storage + 972, most.sizeOf(0, 0));
            for (int day = 109; day <= 113; day++) {
                most.pass(24);
                int due = Math.min(999, storage + 9 * day);
                Check.due("from " + storage + ", day " + day, due, most.sizeOf(0, 0));
                used(most, 0, due, 1, 1);
            }
        }
    }

    // ---- faults

    private static void failsBeforeCutting() {
        says("When a step of a move fails while the tenant is being copied or follows, the move is "
            + "over, and the tenant is not on the target any more.");
        for (int hours = 0; hours <= 4; hours++) {
            TenantPlacement desk = copying();
            desk.setWindow(0, 20, 21);
            desk.addTenant(1, 7, 7, 7, 0);
            desk.keepApart(0, 1);
            if (hours > 0) {
                desk.pass(hours);
            }
            Check.due("phase", hours < 3 ? 'c' : 'f', desk.phase(0));
            Check.due("there before", 'p', desk.reason(1, 1));
            Check.due("fails after " + hours, 'e', desk.fail(0));
            Check.due("over", '-', desk.phase(0));
            Check.due("moves", 0, desk.moves());
            Check.due("the source serves", 0, desk.servedBy(0));
            Check.due("not there any more", 'n', desk.reason(1, 1));
            used(desk, 0, 85, 40, 30);
            used(desk, 1, 7, 7, 7);
            Check.due("switches", 0, desk.switches());
            Check.due("nothing goes on", 0, desk.pass(48));
        }
    }

    private static void isBack(TenantPlacement desk) {
        Check.due("answer", 'b', desk.fail(0));
        Check.due("the source serves", 0, desk.servedBy(0));
        Check.due("it is the target", 0, desk.targetOf(0));
        Check.due("the former target is cleaned", 'd', desk.phase(0));
        hours(desk, 0, 2);
        Check.due("storage there", 45, desk.used(1, 0));
        Check.due("no load there", 0, desk.used(1, 1));
        desk.pass(1);
        Check.due("one hour", 'd', desk.phase(0));
        desk.pass(1);
        Check.due("two hours", '-', desk.phase(0));
        used(desk, 1, 0, 0, 0);
        Check.due("the source serves still", 0, desk.servedBy(0));
    }

    private static void failsInCleaning() {
        says("When it fails in cleaning, and the source is open, not barred for the tenant, and "
            + "its use of load and connections plus the size of the tenant is not greater than its "
            + "limits, the source serves the tenant again, and source and target change their "
            + "parts: the target is the shard that serves the tenant again, and the former target "
            + "is cleaned, which takes 2 hours.");
        isBack(cleaning());
        TenantPlacement late = cleaning();
        late.pass(1);
        isBack(late);
        TenantPlacement storage = cleaning();
        storage.setLimit(0, 0, 1);
        isBack(storage);
        for (int measure = 1; measure <= 2; measure++) {
            TenantPlacement brim = cleaning();
            brim.setLimit(0, measure, measure == 1 ? 40 : 30);
            isBack(brim);
            TenantPlacement tight = cleaning();
            tight.setLimit(0, measure, measure == 1 ? 39 : 29);
            Check.due("one too little of " + measure, 'a', tight.fail(0));
            tight.setSize(1, measure, 9);
            isBack(tight);
        }
        TenantPlacement closed = cleaning();
        closed.setOpen(0, false);
        Check.due("closed", 'a', closed.fail(0));
        closed.setOpen(0, true);
        closed.setOpen(1, false);
        isBack(closed);
        TenantPlacement barred = cleaning();
        barred.keepApart(1, 0);
        Check.due("barred", 'a', barred.fail(0));
        TenantPlacement again = cleaning();
        for (int times = 1; times <= 5; times++) {
            Check.due("back", 'b', again.fail(0));
            Check.due("served by", times % 2 == 1 ? 0 : 1, again.servedBy(0));
            Check.due("target", again.servedBy(0), again.targetOf(0));
            Check.due("switches", times + 1, again.switches());
            used(again, 0, 85, times % 2 == 1 ? 40 : 10, times % 2 == 1 ? 30 : 10);
            used(again, 1, 45, times % 2 == 1 ? 0 : 30, times % 2 == 1 ? 0 : 20);
        }
    }

    private static void cleansAnew() {
        says("Otherwise, cleaning begins anew with 2 hours.");
        for (int hours = 0; hours < 2; hours++) {
            TenantPlacement desk = cleaning();
            desk.setOpen(0, false);
            if (hours > 0) {
                desk.pass(hours);
            }
            for (int times = 0; times < 3; times++) {
                hours(desk, 0, times == 0 ? 2 - hours : 1);
                Check.due("anew", 'a', desk.fail(0));
                Check.due("the target serves", 1, desk.servedBy(0));
                Check.due("it is the target", 1, desk.targetOf(0));
                hours(desk, 0, 2);
                desk.pass(1);
                Check.due("cleaning", 'd', desk.phase(0));
                used(desk, 0, 85, 10, 10);
            }
            desk.pass(1);
            Check.due("over", '-', desk.phase(0));
            Check.due("switches", 1, desk.switches());
        }
    }

    // ---- plans

    private static void planHasAShardForEach() {
        says("A plan tells a shard for each tenant.");
        TenantPlacement desk = shardsOf(300, 300, 300, 300);
        int plans = 1;
        for (int tenant = 0; tenant < 6; tenant++) {
            desk.addTenant(3 - tenant % 4, 50, 50, 50, 0);
            plans *= 4;
            Check.due("plans of " + (tenant + 1), plans, desk.soundPlans());
        }
        plan(desk, 3, 2, 1, 0, 3, 2);
    }

    private static void soundPlan() {
        says("It is sound if each tenant is on an open shard, no two tenants that are kept apart "
            + "are on the same shard, and the sum of the sizes of the tenants on a shard is not "
            + "greater than its limit, for each shard and measure.");
        for (int shard = 0; shard < 3; shard++) {
            TenantPlacement closed = brim();
            closed.setOpen(shard, false);
            Check.due("one closed", 8, closed.soundPlans());
            fewest(closed, shard == 0 ? 3 : 0);
            for (int measure = 0; measure < 3; measure++) {
                TenantPlacement desk = brim();
                desk.setLimit(shard, measure, 100);
                Check.due("all on each", 27, desk.soundPlans());
                desk.setLimit(shard, measure, 99);
                Check.due("not all three", 26, desk.soundPlans());
                desk.setLimit(shard, measure, 90);
                Check.due("60 and 30", 26, desk.soundPlans());
                desk.setLimit(shard, measure, 89);
                Check.due("not 60 and 30", 24, desk.soundPlans());
                desk.setLimit(shard, measure, 9);
                Check.due("none there", 8, desk.soundPlans());
                desk.setLimit(shard, measure, 10);
                Check.due("one there", 12, desk.soundPlans());
            }
        }
        soundByEachLimit();
        TenantPlacement apart = brim();
        apart.keepApart(2, 0);
        Check.due("two apart", 18, apart.soundPlans());
        fewest(apart, 1);
    }

    /** Tenants that are of unlike sizes by each measure: who is on shard 0 is told by bits. */
    private static void soundByEachLimit() {
        int[][] sizes = {{60, 30, 10}, {7, 41, 2}, {23, 5, 31}};
        for (int measure = 0; measure < 3; measure++) {
            TenantPlacement desk = shardsOf(300, 300);
            for (int tenant = 0; tenant < 3; tenant++) {
                desk.addTenant(0, sizes[0][tenant], sizes[1][tenant], sizes[2][tenant], 0);
            }
            for (int limit = 1; limit <= 101; limit++) {
                int plans = 0;
                int most = 0;
                for (int there = 0; there < 8; there++) {
                    int sum = 0;
                    for (int tenant = 0; tenant < 3; tenant++) {
                        sum += (there >> tenant & 1) * sizes[measure][tenant];
                    }
                    plans += sum <= limit ? 1 : 0;
                    most = sum <= limit ? Math.max(most, Integer.bitCount(there)) : most;
                }
                desk.setLimit(0, measure, limit);
                Check.due("plans with " + limit + " of " + measure, plans, desk.soundPlans());
                Check.due("moves with " + limit + " of " + measure, 3 - most, desk.fewestMoves());
            }
        }
    }

    private static void movesOfAPlan() {
        says("The moves of a plan are the tenants that it has on another shard than that which "
            + "serves them now; moves that are under way do not matter.");
        TenantPlacement desk = two();
        desk.setOpen(0, false);
        fewest(desk, 2);
        desk.setOpen(0, true);
        desk.move(0, 1);
        for (int hour = 0; hour < 7; hour++) {
            fewest(desk, 0);
            int on = hour < 4 ? 0 : 1;
            plan(desk, on, 0);
            desk.setOpen(1, false);
            fewest(desk, on);
            plan(desk, 0, 0);
            desk.setOpen(1, true);
            desk.pass(1);
        }
        // Neither what is copied nor what is cleaned takes room in a plan.
        for (int hours : new int[] {1, 3, 4, 5}) {
            TenantPlacement tight = copying();
            tight.pass(hours);
            tight.setLimit(0, 0, hours < 4 ? 85 : 40);
            tight.setLimit(1, 0, hours < 4 ? 1 : 45);
            fewest(tight, 0);
            Check.due("only where they are", 1, tight.soundPlans());
        }
    }

    private static void planWithoutTenants() {
        says("Without tenants, there is one plan, also without shards, and it is sound.");
        for (int shards = 0; shards <= 4; shards++) {
            TenantPlacement desk = empty();
            for (int shard = 0; shard < shards; shard++) {
                desk.addShard(1, 1, 1);
                desk.setOpen(shard, false);
            }
            Check.due("plans with " + shards + " shards", 1, desk.soundPlans());
            fewest(desk, 0);
        }
    }

    private static void bestPlan() {
        says("The best plan is the sound one with the fewest moves; of several, the one that has "
            + "the shard with the lower number for the first tenant that is not on the same shard "
            + "in both.");
        for (int server = 0; server < 3; server++) {
            TenantPlacement desk = shardsOf(100, 100, 100);
            desk.addTenant(server, 50, 50, 50, 0);
            desk.addTenant(server, 50, 50, 50, 0);
            plan(desk, server, server);
            desk.setLimit(server, 0, 50);
            fewest(desk, 1);
            // One of both goes: the first one if it can go down, else the second one.
            plan(desk, 0, server == 0 ? 1 : server);
            desk.keepApart(0, 1);
            plan(desk, 0, server == 0 ? 1 : server);
            desk.setOpen(0, false);
            fewest(desk, server == 0 ? 2 : 1);
            plan(desk, 1, 2);
        }
        // The shards of later tenants are lower in the plan that is not the best.
        TenantPlacement later = shardsOf(100, 100, 100);
        later.addTenant(2, 60, 1, 1, 0);
        later.addTenant(2, 20, 1, 1, 0);
        later.addTenant(2, 20, 1, 1, 0);
        later.setLimit(2, 0, 80);
        fewest(later, 1);
        plan(later, 0, 2, 2);
        later.setLimit(0, 0, 59);
        plan(later, 1, 2, 2);
        later.setLimit(1, 0, 59);
        plan(later, 2, 0, 2);
        later.setLimit(0, 0, 19);
        plan(later, 2, 1, 2);
        // Fewer moves weigh more than lower shards, also for the first tenant.
        TenantPlacement fewer = shardsOf(100, 100, 100);
        fewer.addTenant(1, 50, 1, 1, 0);
        fewer.addTenant(2, 50, 1, 1, 0);
        plan(fewer, 1, 2);
        fewer.setOpen(2, false);
        plan(fewer, 1, 0);
    }

    // ---- exceptions

    /** Packed, with a closed shard, and so tight that no plan is sound. */
    private static TenantPlacement packedAndTight() {
        TenantPlacement desk = packed();
        desk.setOpen(2, false);
        desk.setLimit(0, 0, 60);
        desk.setLimit(1, 1, 1);
        desk.setLimit(3, 0, 100);
        return desk;
    }

    private static void refused(Class<? extends RuntimeException> want, String call,
            Consumer<TenantPlacement> on) {
        Check.refuses(call, want, TermsTest::packedAndTight, on);
    }

    private static void thrownChangesNothing() {
        says("A method that throws an exception changes nothing.");
        refused(ARGUMENT, "addShard", d -> d.addShard(300, 300, 301));
        refused(STATE, "addShard", d -> d.addShard(300, 300, 300));
        refused(INDEX, "setOpen", d -> d.setOpen(4, true));
        refused(INDEX, "setLimit of no shard", d -> d.setLimit(4, 0, 7));
        refused(INDEX, "setLimit of no measure", d -> d.setLimit(0, 3, 7));
        refused(ARGUMENT, "setLimit", d -> d.setLimit(0, 2, 301));
        refused(INDEX, "addTenant", d -> d.addTenant(4, 1, 1, 1, 1));
        refused(ARGUMENT, "addTenant", d -> d.addTenant(3, 1, 1, 1, 10));
        refused(OPERATION, "addTenant, closed", d -> d.addTenant(2, 1, 1, 1, 1));
        refused(OPERATION, "addTenant, no room", d -> d.addTenant(1, 1, 1, 1, 1));
        refused(STATE, "addTenant", d -> d.addTenant(3, 1, 1, 1, 1));
        refused(INDEX, "setSize", d -> d.setSize(6, 1, 7));
        refused(ARGUMENT, "setSize of storage", d -> d.setSize(0, 0, 7));
        refused(ARGUMENT, "setSize", d -> d.setSize(0, 1, 101));
        refused(INDEX, "setWindow", d -> d.setWindow(6, 1, 2));
        refused(ARGUMENT, "setWindow, first", d -> d.setWindow(1, 24, 2));
        refused(ARGUMENT, "setWindow, end", d -> d.setWindow(1, 2, 24));
        refused(INDEX, "keepApart, tenant", d -> d.keepApart(6, 1));
        refused(INDEX, "keepApart, other", d -> d.keepApart(1, 6));
        refused(ARGUMENT, "keepApart", d -> d.keepApart(2, 2));
        refused(OPERATION, "keepApart", d -> d.keepApart(0, 1));
        refused(STATE, "keepApart", d -> d.keepApart(0, 2));
        refused(INDEX, "move of no tenant", d -> d.move(6, 3));
        refused(INDEX, "move to no shard", d -> d.move(4, 4));
        refused(OPERATION, "move", d -> d.move(0, 1));
        refused(STATE, "move", d -> d.move(4, 3));
        refused(INDEX, "reason of no tenant", d -> d.reason(6, 0));
        refused(INDEX, "reason of no shard", d -> d.reason(0, 4));
        refused(INDEX, "fail", d -> d.fail(6));
        refused(STATE, "fail", d -> d.fail(2));
        refused(ARGUMENT, "pass", d -> d.pass(49));
        refused(INDEX, "phase", d -> d.phase(6));
        refused(INDEX, "targetOf", d -> d.targetOf(6));
        refused(ELEMENT, "targetOf", d -> d.targetOf(5));
        refused(INDEX, "hoursLeft", d -> d.hoursLeft(6));
        refused(ELEMENT, "hoursLeft", d -> d.hoursLeft(5));
        refused(INDEX, "hoursByPassing", d -> d.hoursByPassing(6));
        refused(ELEMENT, "hoursByPassing", d -> d.hoursByPassing(5));
        refused(INDEX, "servedBy", d -> d.servedBy(6));
        refused(INDEX, "sizeOf", d -> d.sizeOf(6, 0));
        refused(INDEX, "used", d -> d.used(4, 0));
        refused(INDEX, "usedByLooking", d -> d.usedByLooking(4, 0));
        refused(INDEX, "isOver", d -> d.isOver(4));
        refused(INDEX, "served", d -> d.served(4));
        refused(ELEMENT, "fewestMoves", d -> d.fewestMoves());
        refused(ELEMENT, "fewestByTrying", d -> d.fewestByTrying());
        refused(INDEX, "planned", d -> d.planned(6));
        refused(ELEMENT, "planned", d -> d.planned(5));
        refused(INDEX, "shareOf", d -> d.shareOf(4, 0));
        Check.refuses("meanStorage", ARITHMETIC, () -> shardsOf(5), d -> d.meanStorage());
    }

    private static void firstDocumentedIsThrown() {
        says("If several exceptions apply, the one that is documented first is thrown.");
        refused(ARGUMENT, "addShard, full", d -> d.addShard(0, 1, 1));
        refused(INDEX, "setLimit, no shard", d -> d.setLimit(4, 0, 0));
        refused(INDEX, "setLimit, no measure", d -> d.setLimit(0, 3, 301));
        refused(INDEX, "addTenant, no shard, no size, full", d -> d.addTenant(4, 0, 1, 1, 0));
        refused(INDEX, "addTenant, no shard, full", d -> d.addTenant(-1, 1, 1, 1, 0));
        refused(ARGUMENT, "addTenant, no size, closed, full", d -> d.addTenant(2, 101, 1, 1, 0));
        refused(ARGUMENT, "addTenant, no growth, no room", d -> d.addTenant(1, 1, 1, 1, -1));
        refused(ARGUMENT, "addTenant, no size, full", d -> d.addTenant(3, 1, 1, 0, 0));
        refused(OPERATION, "addTenant, closed, full", d -> d.addTenant(2, 1, 1, 1, 0));
        refused(OPERATION, "addTenant, no room, full", d -> d.addTenant(1, 1, 1, 1, 0));
        refused(INDEX, "setSize, no tenant, storage", d -> d.setSize(6, 0, 1));
        refused(INDEX, "setSize, no tenant, no size", d -> d.setSize(6, 1, 0));
        refused(INDEX, "setWindow, no tenant, no hour", d -> d.setWindow(6, 24, 24));
        refused(INDEX, "keepApart, none twice, full", d -> d.keepApart(6, 6));
        refused(INDEX, "keepApart, one unknown, full", d -> d.keepApart(0, 6));
        refused(ARGUMENT, "keepApart, the same, full", d -> d.keepApart(5, 5));
        refused(OPERATION, "keepApart, again, full", d -> d.keepApart(0, 5));
        refused(INDEX, "move, no tenant, closed, three moves", d -> d.move(6, 2));
        refused(INDEX, "move, no shard, has a move, three moves", d -> d.move(0, 4));
        refused(OPERATION, "move, has a move, three moves", d -> d.move(1, 0));
        refused(OPERATION, "move, served, three moves", d -> d.move(4, 0));
        refused(OPERATION, "move, closed, three moves", d -> d.move(4, 2));
        refused(OPERATION, "move, barred, three moves", d -> d.move(2, 3));
        refused(OPERATION, "move, no room, three moves", d -> d.move(5, 3));
        refused(INDEX, "targetOf, no tenant, no move", d -> d.targetOf(-1));
        refused(INDEX, "hoursLeft, no tenant, no move", d -> d.hoursLeft(-1));
        refused(INDEX, "hoursByPassing, no tenant, no move", d -> d.hoursByPassing(-1));
        refused(INDEX, "planned, no tenant, no plan", d -> d.planned(-1));
        Check.refuses("the highest reason of a desk with three moves", STATE,
            TermsTest::packed, d -> d.move(4, 3));
    }
}
