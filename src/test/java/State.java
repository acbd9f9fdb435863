import java.util.function.Supplier;

/** All that can be seen of a desk, as one text. */
final class State {
    private State() {
    }

    /**
     * What can be seen without a change, and then what only changes tell: which shards are open,
     * limits, pairs, windows and growth. The desk is used up by it, with some 400 of its calls.
     */
    static String all(TenantPlacement desk) {
        return of(desk) + "\n" + settings(desk) + "\n" + day(desk) + "\n" + of(desk);
    }

    private static String settings(TenantPlacement desk) {
        StringBuilder text = new StringBuilder();
        int shards = desk.shards();
        for (int shard = 0; shard < shards; shard++) {
            text.append(" open ").append(desk.setOpen(shard, true));
            for (int measure = 0; measure < 3; measure++) {
                text.append(' ').append(desk.setLimit(shard, measure, 300));
            }
        }
        int tenants = desk.tenants();
        for (int t = 0; t < tenants; t++) {
            int tenant = t;
            int next = shards == 0 ? 0 : (desk.servedBy(t) + 1) % shards;
            text.append(" move ").append(outcome(() -> desk.move(tenant, next)));
            for (int u = 0; u < tenants; u++) {
                int other = u;
                text.append(" apart ").append(outcome(() -> desk.keepApart(tenant, other)));
            }
        }
        return text.toString();
    }

    /** A day and a copy's time, hour by hour: in which of them tenants are cut over, and growth. */
    private static String day(TenantPlacement desk) {
        StringBuilder text = new StringBuilder("cut over");
        for (int hour = 0; hour < 30; hour++) {
            text.append(' ').append(desk.pass(1));
        }
        return text.toString();
    }

    static String of(TenantPlacement desk) {
        StringBuilder text = new StringBuilder();
        text.append("time ").append(desk.time());
        text.append(" moves ").append(desk.moves());
        text.append(" switches ").append(desk.switches());
        text.append(" hoursOver ").append(desk.hoursOver());
        text.append(" plans ").append(desk.soundPlans());
        text.append(" fewest ").append(outcome(desk::fewestMoves));
        text.append(" mean ").append(outcome(desk::meanStorage));
        for (int s = 0; s < desk.shards(); s++) {
            int shard = s;
            text.append("\nshard ").append(s).append(" serves ").append(desk.served(s));
            for (int measure = 0; measure < 3; measure++) {
                text.append(' ').append(desk.used(s, measure));
                text.append('/').append(desk.shareOf(s, measure));
            }
            for (int tenant = 0; tenant < desk.tenants(); tenant++) {
                text.append(' ').append(desk.reason(tenant, shard));
            }
        }
        for (int t = 0; t < desk.tenants(); t++) {
            int tenant = t;
            text.append("\ntenant ").append(t).append(" on ").append(desk.servedBy(t));
            for (int measure = 0; measure < 3; measure++) {
                text.append(' ').append(desk.sizeOf(t, measure));
            }
            text.append(' ').append(desk.phase(t));
            text.append(' ').append(outcome(() -> desk.targetOf(tenant)));
            text.append(' ').append(outcome(() -> desk.hoursLeft(tenant)));
            text.append(' ').append(outcome(() -> desk.planned(tenant)));
        }
        return text.toString();
    }

    static String outcome(Supplier<Object> call) {
        try {
            return String.valueOf(call.get());
        } catch (RuntimeException e) {
            return "throws." + e.getClass().getSimpleName();
        }
    }
}
