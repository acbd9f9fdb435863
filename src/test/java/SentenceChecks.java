import java.util.function.Consumer;

/** What sentences that stand in several promises have in common. */
abstract class SentenceChecks extends DeskChecks {
    static final String TENANT = "- `tenant`: the number of the tenant";
    static final String SHARD = "- `shard`: the number of the shard";
    static final String MEASURE = "- `measure`: the measure";
    static final String INDEX_IF = "Throws `IndexOutOfBoundsException` if there is no such ";
    static final String ELEMENT_IF = "Throws `NoSuchElementException` if ";

    static void says(int promise, String sentence) {
        Doc.tests("Promise " + promise, sentence);
    }

    static void tenantNumber(int promise, NumberCall call) {
        says(promise, TENANT);
        known(6, call);
        says(promise, INDEX_IF + "tenant");
        noSuchTenant(call);
    }

    static void shardNumber(int promise, NumberCall call) {
        says(promise, SHARD);
        known(4, call);
        says(promise, INDEX_IF + "shard");
        noSuchShard(call);
    }

    /** Both sentences of a shard and a measure, and the one that refuses either. */
    static void shardAndMeasure(int promise, NumberCall onShard, NumberCall ofMeasure) {
        says(promise, SHARD);
        known(4, onShard);
        says(promise, MEASURE);
        known(3, ofMeasure);
        says(promise, INDEX_IF + "shard or no such measure");
        noSuchShard(onShard);
        noSuchMeasure(ofMeasure);
    }

    static void withoutMove(int promise, Consumer<TenantPlacement> ofTenantNought) {
        says(promise, ELEMENT_IF + "it has no move");
        Check.refuses("never moved", ELEMENT, DeskChecks::two, ofTenantNought);
        Check.refuses("while another moves", ELEMENT, () -> {
            TenantPlacement desk = two();
            desk.move(1, 1);
            return desk;
        }, ofTenantNought);
        Check.refuses("failed", ELEMENT, () -> {
            TenantPlacement desk = following();
            desk.fail(0);
            return desk;
        }, ofTenantNought);
        Check.refuses("over", ELEMENT, () -> {
            TenantPlacement desk = cleaning();
            desk.pass(2);
            return desk;
        }, ofTenantNought);
        TenantPlacement last = cleaning();
        last.pass(1);
        Check.due("in its last hour it has one", "has", State.outcome(() -> {
            ofTenantNought.accept(last);
            return "has";
        }));
    }

    static void noPlanIsSound(int promise, Consumer<TenantPlacement> call) {
        says(promise, ELEMENT_IF + "no plan is sound");
        Check.refuses("too little room", ELEMENT, DeskChecks::hopeless, call);
        Check.refuses("all closed", ELEMENT, () -> {
            TenantPlacement desk = two();
            desk.setOpen(0, false);
            desk.setOpen(1, false);
            return desk;
        }, call);
        Check.refuses("three apart on two", ELEMENT, () -> {
            TenantPlacement desk = two();
            desk.addTenant(1, 1, 1, 1, 0);
            desk.keepApart(0, 1);
            desk.keepApart(1, 2);
            desk.keepApart(2, 0);
            return desk;
        }, call);
        TenantPlacement one = hopeless();
        one.setLimit(2, 1, 60);
        Check.due("one with room for the largest", "sound", State.outcome(() -> {
            call.accept(one);
            return "sound";
        }));
    }
}
