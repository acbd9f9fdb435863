import java.util.function.Supplier;

/** All that can be seen of a desk without changing it, as one text. */
final class State {
    private State() {
    }

    static String of(TenantPlacement desk) {
        StringBuilder text = new StringBuilder();
        text.append("time ").append(desk.time());
        text.append(" moves ").append(desk.moves());
        text.append(" switches ").append(desk.switches());
        text.append(" hoursOver ").append(desk.hoursOver());
        text.append(" plans ").append(desk.soundPlans());
        text.append(" fewest ").append(outcome(desk::fewestMoves));
        text.append(" mean ").append(outcome(desk::meanStorage));
        for (int s = 0; s < desk.shards(); s++) {
            int shard = s;
            text.append("\nshard ").append(s).append(" serves ").append(desk.served(s));
            for (int measure = 0; measure < 3; measure++) {
                text.append(' ').append(desk.used(s, measure));
                text.append('/').append(desk.shareOf(s, measure));
            }
            for (int tenant = 0; tenant < desk.tenants(); tenant++) {
                text.append(' ').append(desk.reason(tenant, shard));
            }
        }
        for (int t = 0; t < desk.tenants(); t++) {
            int tenant = t;
            text.append("\ntenant ").append(t).append(" on ").append(desk.servedBy(t));
            for (int measure = 0; measure < 3; measure++) {
                text.append(' ').append(desk.sizeOf(t, measure));
            }
            text.append(' ').append(desk.phase(t));
            text.append(' ').append(outcome(() -> desk.targetOf(tenant)));
            text.append(' ').append(outcome(() -> desk.hoursLeft(tenant)));
            text.append(' ').append(outcome(() -> desk.planned(tenant)));
        }
        return text.toString();
    }

    static String outcome(Supplier<Object> call) {
        try {
            return String.valueOf(call.get());
        } catch (RuntimeException e) {
            return "throws." + e.getClass().getSimpleName();
        }
    }
}
