import java.io.IOException;
import java.util.function.Supplier;

/** A test for each sentence of promises 9 to 18: moves. */
public final class Promises9To18Test extends SentenceChecks {
    private Promises9To18Test() {
    }

    public static void main(String[] args) throws IOException {
        Doc.read(args[1]);
        Check.each(
            Promises9To18Test::move,
            Promises9To18Test::moveRefused,
            Promises9To18Test::reason,
            Promises9To18Test::reasonOrder,
            Promises9To18Test::fail,
            Promises9To18Test::failAnswers,
            Promises9To18Test::pass,
            Promises9To18Test::passRange,
            Promises9To18Test::time,
            Promises9To18Test::phase,
            Promises9To18Test::targetOf,
            Promises9To18Test::hoursLeft,
            Promises9To18Test::hoursByPassing,
            Promises9To18Test::moves);
        Doc.allTested("Promise (9|1[0-8])");
        Check.end();
    }

    private static void move() {
        says(9, "Begins a move.");
        TenantPlacement desk = two();
        desk.move(0, 1);
        Check.due("it is copied", 'c', desk.phase(0));
        Check.due("target", 1, desk.targetOf(0));
        Check.due("moves", 1, desk.moves());
        used(desk, 0, 85, 40, 30);
        used(desk, 1, 45, 30, 20);
        Check.due("no switch", 0, desk.switches());
        says(9, TENANT);
        known(6, (d, t) -> d.move(t, 3));
        says(9, "- `shard`: the number of the target");
        for (int source = 0; source < 4; source++) {
            for (int target = 0; target < 4; target++) {
                if (source != target) {
                    TenantPlacement each = shardsOf(300, 300, 300, 300);
                    each.addTenant(source, 20, 2, 3, 0);
                    each.move(0, target);
                    Check.due("target", target, each.targetOf(0));
                    Check.due("served by the source", source, each.servedBy(0));
                    each.pass(2);
                    Check.due("served by the target", target, each.servedBy(0));
                }
            }
        }
        says(9, "Returns the number of hours that copying takes.");
        int[][] hoursOf = {{1, 1}, {19, 1}, {20, 1}, {21, 2}, {40, 2}, {41, 3}, {60, 3}, {61, 4},
            {80, 4}, {81, 5}, {100, 5}, {101, 6}, {280, 14}, {281, 15}, {299, 15}, {300, 15}};
        for (int[] pair : hoursOf) {
            Check.due("of " + pair[0], pair[1], grownTo(pair[0]).move(0, 1));
        }
        Check.due("more than any shard holds", 'r', grownTo(301).reason(0, 1));
    }

    private static void moveRefused() {
        says(9, INDEX_IF + "tenant or no such shard");
        noSuchTenant((d, t) -> d.move(t, 0));
        noSuchShard((d, s) -> d.move(0, s));
        noSuchShard((d, s) -> d.move(4, s));
        says(9, "Throws `UnsupportedOperationException` if the reason of the tenant and the shard "
            + "is not 'n'");
        for (int closed = -1; closed < 4; closed++) {
            int shut = closed;
            Supplier<TenantPlacement> maker = () -> {
                TenantPlacement desk = packed();
                desk.fail(1);
                if (shut >= 0) {
                    desk.setOpen(shut, false);
                }
                desk.setLimit(3, 0, 30);
                return desk;
            };
            for (int tenant = 0; tenant < 6; tenant++) {
                for (int shard = 0; shard < 4; shard++) {
                    int one = tenant;
                    int to = shard;
                    TenantPlacement desk = maker.get();
                    if (desk.reason(one, to) == 'n') {
                        boolean isHours = desk.move(one, to) > 0;
                        Check.due("no reason", true, isHours);
                    } else {
                        String reason = "reason " + desk.reason(one, to);
                        Check.refuses(reason, OPERATION, maker, d -> d.move(one, to));
                    }
                }
            }
        }
        says(9, "Throws `IllegalStateException` if 3 moves are under way");
        for (int hours = 0; hours < 6; hours++) {
            int passed = hours;
            Check.refuses("after " + hours, STATE, () -> {
                TenantPlacement desk = threeMoves();
                if (passed > 0) {
                    desk.pass(passed);
                }
                return desk;
            }, d -> d.move(1, 1));
        }
        TenantPlacement over = threeMoves();
        over.pass(6);
        Check.due("over", 3, over.move(1, 1));
        TenantPlacement failed = threeMoves();
        failed.fail(3);
        Check.due("two and one that failed", 3, failed.move(1, 1));
    }

    private static void reason() {
        says(10, "Returns why a tenant cannot be moved to a shard.");
        Check.due("nothing", 'n', two().reason(0, 1));
        Check.due("and so it can", 3, two().move(0, 1));
        says(10, TENANT);
        known(6, (d, t) -> d.reason(t, 3));
        says(10, SHARD);
        known(4, (d, s) -> d.reason(5, s));
        says(10, INDEX_IF + "tenant or no such shard");
        noSuchTenant((d, t) -> d.reason(t, 0));
        noSuchShard((d, s) -> d.reason(0, s));
        noSuchShard((d, s) -> d.reason(4, s));
    }

    /** As many reasons as can be at once; what is taken away lets the next one be seen. */
    private static void reasonOrder() {
        says(10, "Returns the first one of these that applies: 'm' if it has a move, 's' if the "
            + "shard serves it, 'c' if the shard is closed, 'p' if the shard is barred for it, 'r' "
            + "if it has no room there, 'n' if nothing is the matter.");
        TenantPlacement desk = shardsOf(300, 300, 300);
        desk.addTenant(0, 40, 10, 10, 0);
        desk.addTenant(1, 40, 10, 10, 0);
        desk.keepApart(0, 1);
        desk.setLimit(1, 0, 1);
        desk.setLimit(0, 0, 1);
        desk.setOpen(1, false);
        desk.setOpen(0, false);
        desk.move(0, 2);
        Check.due("a move, and served", 'm', desk.reason(0, 0));
        Check.due("a move, and closed", 'm', desk.reason(0, 1));
        Check.due("a move, and there already", 'm', desk.reason(0, 2));
        desk.fail(0);
        Check.due("served, closed and no room", 's', desk.reason(0, 0));
        Check.due("closed, barred and no room", 'c', desk.reason(0, 1));
        desk.setOpen(1, true);
        Check.due("barred and no room", 'p', desk.reason(0, 1));
        desk.move(1, 2);
        desk.pass(3);
        Check.due("no room, beside what is cleaned", 'r', desk.reason(0, 1));
        desk.setLimit(1, 0, 79);
        Check.due("one too little", 'r', desk.reason(0, 1));
        desk.setLimit(1, 0, 80);
        Check.due("nothing", 'n', desk.reason(0, 1));
        desk.setLimit(1, 0, 79);
        desk.pass(2);
        Check.due("nothing when it is clean", 'n', desk.reason(0, 1));
        Check.due("barred", 'p', desk.reason(0, 2));
        for (int measure = 0; measure < 3; measure++) {
            TenantPlacement tight = two();
            int[] size = {45, 30, 20};
            tight.setLimit(1, measure, size[measure]);
            Check.due("just room", 'n', tight.reason(0, 1));
            tight.setLimit(1, measure, size[measure] - 1);
            Check.due("one too little of " + measure, 'r', tight.reason(0, 1));
        }
    }

    private static void fail() {
        says(11, "Lets a step of the move of a tenant fail.");
        for (int failing : new int[] {0, 2, 3}) {
            TenantPlacement three = threeMoves();
            three.fail(failing);
            for (int tenant = 0; tenant < 4; tenant++) {
                boolean isCopied = tenant != failing && tenant != 1;
                Check.due("tenant " + tenant, isCopied ? 'c' : '-', three.phase(tenant));
            }
            Check.due("time stays", 0, three.time());
        }
        tenantNumber(11, (d, t) -> d.fail(t));
        says(11, "Throws `IllegalStateException` if it has no move");
        Check.refuses("never moved", STATE, Promises9To18Test::two, d -> d.fail(0));
        Check.refuses("while another moves", STATE, Promises9To18Test::packed, d -> d.fail(2));
        Check.refuses("failed already", STATE, () -> {
            TenantPlacement desk = following();
            desk.fail(0);
            return desk;
        }, d -> d.fail(0));
        Check.refuses("over", STATE, () -> {
            TenantPlacement desk = cleaning();
            desk.pass(2);
            return desk;
        }, d -> d.fail(0));
    }

    private static void failAnswers() {
        says(11, "Returns 'e' if the move is over, 'b' if the source serves the tenant again, 'a' "
            + "if cleaning begins anew.");
        char[] answers = {'e', 'e', 'e', 'e', 'b', 'b'};
        for (int hours = 0; hours < 6; hours++) {
            TenantPlacement desk = copying();
            TenantPlacement closed = copying();
            closed.setOpen(0, false);
            if (hours > 0) {
                desk.pass(hours);
                closed.pass(hours);
            }
            Check.due("after " + hours, answers[hours], desk.fail(0));
            Check.due("over", hours < 4 ? '-' : 'd', desk.phase(0));
            Check.due("served by", 0, desk.servedBy(0));
            Check.due("switches", hours < 4 ? 0 : 2, desk.switches());
            Check.due("closed, after " + hours, hours < 4 ? 'e' : 'a', closed.fail(0));
            Check.due("closed, served by", hours < 4 ? 0 : 1, closed.servedBy(0));
            Check.due("closed, switches", hours < 4 ? 0 : 1, closed.switches());
        }
        // Barred by a tenant that is copied to the source, and not any more when that fails.
        TenantPlacement desk = shardsOf(300, 300, 300);
        desk.addTenant(0, 20, 10, 10, 0);
        desk.addTenant(2, 60, 10, 10, 0);
        desk.keepApart(0, 1);
        desk.move(0, 1);
        desk.pass(2);
        desk.move(1, 0);
        Check.due("barred by a copy", 'a', desk.fail(0));
        desk.setLimit(0, 1, 19);
        desk.fail(1);
        Check.due("free again", 'b', desk.fail(0));
        // Load that is copied to the source leaves less room there for going back.
        for (int measure = 1; measure <= 2; measure++) {
            for (int limit = 19; limit <= 20; limit++) {
                TenantPlacement filled = shardsOf(300, 300, 300);
                filled.addTenant(0, 20, 10, 10, 0);
                filled.addTenant(2, 60, 10, 10, 0);
                filled.move(0, 1);
                filled.pass(2);
                filled.move(1, 0);
                filled.setLimit(0, measure, limit);
                Check.due("with " + limit, limit < 20 ? 'a' : 'b', filled.fail(0));
            }
        }
    }

    private static void pass() {
        says(12, "Lets hours pass.");
        for (int hours = 1; hours <= 48; hours++) {
            TenantPlacement atOnce = packed();
            TenantPlacement oneByOne = packed();
            int cutOver = 0;
            for (int hour = 0; hour < hours; hour++) {
                cutOver += oneByOne.pass(1);
            }
            Check.due("cut over in " + hours, cutOver, atOnce.pass(hours));
            Check.due("state after " + hours, State.of(oneByOne), State.of(atOnce));
        }
        says(12, "Returns how many tenants were cut over.");
        int[] cutOver = {0, 0, 0, 3, 0, 0, 0};
        TenantPlacement three = threeMoves();
        for (int hour = 0; hour < cutOver.length; hour++) {
            Check.due("in hour " + hour, cutOver[hour], three.pass(1));
        }
        Check.due("none", 0, empty().pass(48));
        Check.due("none without moves", 0, two().pass(48));
        Check.due("one", 1, copying().pass(48));
        Check.due("the most", 3, threeMoves().pass(48));
        TenantPlacement back = cleaning();
        back.fail(0);
        Check.due("going back is no cutting over", 0, back.pass(2));
        TenantPlacement twice = copying();
        twice.pass(48);
        twice.move(0, 0);
        Check.due("another move", 1, twice.pass(48));
    }

    private static void passRange() {
        says(12, "- `hours`: the number of hours, 1 to 48");
        range(1, 48, ARGUMENT, Promises9To18Test::copying, (d, hours) -> {
            d.pass(hours);
            return d.time();
        });
        says(12, "Throws `IllegalArgumentException` if the number is out of range");
        for (int wrong : new int[] {0, -1, 49, Integer.MIN_VALUE, Integer.MAX_VALUE}) {
            Check.refuses("an empty desk", ARGUMENT,
                Promises9To18Test::empty, d -> d.pass(wrong));
            Check.refuses("a full one", ARGUMENT, Promises9To18Test::packed, d -> d.pass(wrong));
        }
    }

    private static void time() {
        says(13, "Returns the time.");
        TenantPlacement desk = two();
        Check.due("at first", 0, desk.time());
        desk.move(0, 1);
        Check.due("a move takes no time by itself", 0, desk.time());
        int due = 0;
        for (int hours = 1; hours <= 48; hours++) {
            desk.pass(hours);
            due += hours;
            Check.due("after " + hours + " more", due, desk.time());
        }
        // The most that 512 calls can let pass, with the last of them to ask for it.
        TenantPlacement last = empty();
        for (int call = 1; call <= 511; call++) {
            last.pass(48);
        }
        Check.due("at the 512th call", 511 * 48, last.time());
    }

    private static void phase() {
        says(14, "Returns the phase of the move of a tenant.");
        TenantPlacement desk = packed();
        char[] phases = {'c', 'f', '-', 'd', '-', '-'};
        for (int tenant = 0; tenant < 6; tenant++) {
            Check.due("of " + tenant, phases[tenant], desk.phase(tenant));
        }
        tenantNumber(14, (d, t) -> d.phase(t));
        says(14, "Returns 'c' if it is being copied, 'f' if it follows, 'd' if its move is "
            + "cleaning, '-' if it has no move.");
        StringBuilder seen = new StringBuilder();
        TenantPlacement one = two();
        one.setWindow(0, 5, 6);
        seen.append(one.phase(0));
        one.move(0, 1);
        for (int hour = 0; hour <= 8; hour++) {
            seen.append(one.phase(0));
            one.pass(1);
        }
        Check.due("phases", "-cccfffdd-", seen.toString());
        TenantPlacement failed = copying();
        failed.fail(0);
        Check.due("failed", '-', failed.phase(0));
        TenantPlacement back = cleaning();
        back.fail(0);
        Check.due("gone back", 'd', back.phase(0));
    }

    private static void targetOf() {
        says(15, "Returns the target of the move of a tenant.");
        TenantPlacement desk = packed();
        Check.due("copying", 2, desk.targetOf(0));
        Check.due("following", 3, desk.targetOf(1));
        Check.due("cleaning", 1, desk.targetOf(3));
        says(15, "Returns the number of the shard.");
        for (int source = 0; source < 4; source++) {
            int target = 3 - source;
            TenantPlacement back = shardsOf(300, 300, 300, 300);
            back.addTenant(source, 20, 1, 1, 0);
            back.move(0, target);
            for (int hour = 0; hour < 3; hour++) {
                Check.due("target", target, back.targetOf(0));
                back.pass(1);
            }
            Check.due("in its last hour", target, back.targetOf(0));
            back.fail(0);
            Check.due("the source, gone back", source, back.targetOf(0));
            back.fail(0);
            Check.due("the target, gone there again", target, back.targetOf(0));
        }
        tenantNumber(15, (d, t) -> d.targetOf(t));
        withoutMove(15, d -> d.targetOf(0));
    }

    /** Hours of the day go by until one in the window; then it is cut over, and cleaned for 2. */
    private static int hoursFrom(TenantPlacement desk, int copying, int first, int end) {
        int hours = copying;
        while (!isInWindow((desk.time() + hours) % 24, first, end)) {
            hours++;
        }
        return hours + 1 + 2;
    }

    private interface Hours {
        int left(TenantPlacement desk);
    }

    private static void checkHours(Hours call) {
        for (int hour = 0; hour < 24; hour++) {
            for (int first = 0; first < 24; first++) {
                for (int end = 0; end < 24; end++) {
                    TenantPlacement desk = followingAt(hour);
                    desk.setWindow(0, first, end);
                    String window = "at " + hour + ", window " + first + " to " + end;
                    Check.due(window, hoursFrom(desk, 0, first, end), call.left(desk));
                    desk.fail(0);
                    desk.move(0, 1);
                    Check.due(window, hoursFrom(desk, 1, first, end), call.left(desk));
                }
            }
        }
        for (int storage : new int[] {1, 20, 21, 100, 280, 281, 300}) {
            for (int first = 0; first < 24; first++) {
                TenantPlacement desk = grownTo(storage);
                int copying = desk.move(0, 1);
                int end = (first + 1) % 24;
                desk.setWindow(0, first, end);
                int due = hoursFrom(desk, copying, first, end);
                for (int left = due; left > 0; left--) {
                    Check.due("storage " + storage + ", window " + first, left, call.left(desk));
                    desk.pass(1);
                }
                Check.due("over", '-', desk.phase(0));
            }
        }
        TenantPlacement failed = cleaning();
        Check.due("cleaning", 2, call.left(failed));
        failed.pass(1);
        Check.due("its last hour", 1, call.left(failed));
        failed.fail(0);
        Check.due("gone back", 2, call.left(failed));
        failed.setWindow(0, 0, 1);
        Check.due("cleaning waits for no window", 2, call.left(failed));
    }

    private static void hoursLeft() {
        says(16, "Returns after how many hours the move of a tenant is over if no step fails, the "
            + "hour of cutting over and those of cleaning included, found from the hours that are "
            + "left and the window.");
        checkHours(d -> d.hoursLeft(0));
        says(16, "Returns the number of hours.");
        Check.due("of the first", 6, packed().hoursLeft(0));
        Check.due("of the second", 10 + 1 + 2, packed().hoursLeft(1));
        Check.due("of the fourth", 2, packed().hoursLeft(3));
        tenantNumber(16, (d, t) -> d.hoursLeft(t));
        withoutMove(16, d -> d.hoursLeft(0));
    }

    private static void hoursByPassing() {
        says(17, "Returns the same number, found by letting hours pass on a copy of the move.");
        checkHours(d -> d.hoursByPassing(0));
        for (int tenant : new int[] {0, 1, 3}) {
            TenantPlacement desk = packed();
            desk.hoursByPassing(tenant);
            Check.due("the move itself stays", State.all(packed()), State.all(desk));
        }
        says(17, "Returns the number of hours.");
        Check.due("of the first", 6, packed().hoursByPassing(0));
        Check.due("of the second", 10 + 1 + 2, packed().hoursByPassing(1));
        Check.due("of the fourth", 2, packed().hoursByPassing(3));
        tenantNumber(17, (d, t) -> d.hoursByPassing(t));
        withoutMove(17, d -> d.hoursByPassing(0));
    }

    private static void moves() {
        says(18, "Returns the number of moves that are under way.");
        int[] due = {1, 1, 1, 1, 1, 1, 0};
        TenantPlacement desk = copying();
        for (int hour = 0; hour < due.length; hour++) {
            Check.due("after " + hour, due[hour], desk.moves());
            desk.pass(1);
        }
        TenantPlacement back = cleaning();
        back.fail(0);
        Check.due("gone back", 1, back.moves());
        says(18, "Returns the number of moves.");
        Check.due("none", 0, empty().moves());
        Check.due("none of tenants", 0, full().moves());
        TenantPlacement each = full();
        for (int tenant = 5; tenant > 2; tenant--) {
            each.move(tenant, 1);
            Check.due("moves", 6 - tenant, each.moves());
        }
        Check.due("the most", 3, packed().moves());
        for (int tenant = 3; tenant < 6; tenant++) {
            each.fail(tenant);
            Check.due("fewer", 5 - tenant, each.moves());
        }
    }
}
