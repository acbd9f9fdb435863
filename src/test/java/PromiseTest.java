import java.util.function.Supplier;

/** One test for each promise: ordinary calls, the edges that the document names, wrong calls. */
public final class PromiseTest extends DeskChecks {
    private PromiseTest() {
    }

    public static void main(String[] args) {
        newObject();
        addShard();
        setOpen();
        setLimit();
        addTenant();
        addTenantRoom();
        setSize();
        setSizeUnderMove();
        setWindow();
        keepApart();
        move();
        moveLimit();
        reason();
        reasonBarred();
        fail();
        failBack();
        failAnew();
        pass();
        passOrder();
        passGrowth();
        time();
        phase();
        targetOf();
        hoursLeft();
        moves();
        shards();
        tenants();
        servedBy();
        sizeOf();
        used();
        isOver();
        served();
        fewestMoves();
        planned();
        soundPlans();
        plansWithoutMuch();
        switches();
        hoursOver();
        shareOf();
        meanStorage();
        Check.end();
    }

    // ---- promises

    private static void newObject() {
        Check.part("promise 1");
        TenantPlacement desk = empty();
        Check.due("time", 0, desk.time());
        Check.due("shards", 0, desk.shards());
        Check.due("tenants", 0, desk.tenants());
        Check.due("moves", 0, desk.moves());
        Check.due("switches", 0, desk.switches());
        Check.due("hoursOver", 0L, desk.hoursOver());
        TenantPlacement other = two();
        other.pass(5);
        Check.due("time beside another desk", 0, desk.time());
        Check.due("shards beside another desk", 0, desk.shards());
        Check.refuses("phase(0)", INDEX, PromiseTest::empty, d -> d.phase(0));
        Check.refuses("isOver(0)", INDEX, PromiseTest::empty, d -> d.isOver(0));
    }

    private static void addShard() {
        Check.part("promise 2");
        TenantPlacement desk = empty();
        Check.due("first", 0, desk.addShard(1, 300, 7));
        Check.due("second", 1, desk.addShard(300, 1, 8));
        Check.due("third", 2, desk.addShard(9, 10, 1));
        Check.due("fourth", 3, desk.addShard(100, 100, 300));
        Check.due("limit of storage", 1, desk.setLimit(0, 0, 5));
        Check.due("limit of load", 300, desk.setLimit(0, 1, 5));
        Check.due("limit of connections", 7, desk.setLimit(0, 2, 5));
        Check.due("limit of another", 9, desk.setLimit(2, 0, 5));
        Check.due("it is open", true, desk.setOpen(3, false));
        used(desk, 3, 0, 0, 0);
        for (int wrong : new int[] {0, -1, 301, Integer.MIN_VALUE, Integer.MAX_VALUE}) {
            Check.refuses("storage " + wrong, ARGUMENT,
                PromiseTest::two, d -> d.addShard(wrong, 1, 1));
            Check.refuses("load " + wrong, ARGUMENT,
                PromiseTest::two, d -> d.addShard(1, wrong, 1));
            Check.refuses("connections " + wrong, ARGUMENT,
                PromiseTest::two, d -> d.addShard(1, 1, wrong));
        }
        Supplier<TenantPlacement> full = () -> shardsOf(10, 20, 30, 40);
        Check.refuses("a fifth", STATE, full, d -> d.addShard(1, 1, 1));
        Check.refuses("a fifth out of range", ARGUMENT, full, d -> d.addShard(1, 1, 0));
    }

    private static void setOpen() {
        Check.part("promise 3");
        TenantPlacement desk = two();
        desk.move(0, 1);
        Check.due("was open", true, desk.setOpen(1, false));
        Check.due("was closed", false, desk.setOpen(1, false));
        Check.due("the move goes on", 'c', desk.phase(0));
        Check.due("and cuts over", 1, desk.pass(4));
        Check.due("it is served there", 1, desk.servedBy(0));
        Check.due("the other may not follow", 'c', desk.reason(1, 1));
        Check.due("was closed before", false, desk.setOpen(1, true));
        Check.due("now it may", 'n', desk.reason(1, 1));
        Check.due("was open again", true, desk.setOpen(1, true));
        desk.setOpen(0, false);
        Check.due("a tenant stays", 0, desk.servedBy(1));
        used(desk, 0, 85, 10, 10);
        refuseShards("setOpen", PromiseTest::two, (d, s) -> d.setOpen(s, false));
    }

    private static void setLimit() {
        Check.part("promise 4");
        TenantPlacement desk = empty();
        desk.addShard(100, 200, 300);
        desk.addShard(11, 12, 13);
        desk.addTenant(0, 50, 60, 70, 0);
        Check.due("storage", 100, desk.setLimit(0, 0, 50));
        Check.due("load", 200, desk.setLimit(0, 1, 60));
        Check.due("connections", 300, desk.setLimit(0, 2, 70));
        Check.due("as much as it uses", false, desk.isOver(0));
        Check.due("storage again", 50, desk.setLimit(0, 0, 1));
        Check.due("less than it uses", true, desk.isOver(0));
        Check.due("the lowest", 1, desk.setLimit(0, 0, 300));
        Check.due("the highest", 300, desk.setLimit(0, 0, 300));
        Check.due("another shard", 12, desk.setLimit(1, 1, 12));
        refuseShards("setLimit", PromiseTest::two, (d, s) -> d.setLimit(s, 0, 10));
        refuseMeasures("setLimit", PromiseTest::two, (d, m) -> d.setLimit(1, m, 10));
        for (int wrong : new int[] {0, -1, 301, Integer.MIN_VALUE, Integer.MAX_VALUE}) {
            for (int m = 0; m < 3; m++) {
                int measure = m;
                Check.refuses("limit " + wrong, ARGUMENT,
                    PromiseTest::two, d -> d.setLimit(0, measure, wrong));
            }
        }
        Check.refuses("no shard first", INDEX, PromiseTest::two, d -> d.setLimit(2, 0, 0));
        Check.refuses("no measure first", INDEX, PromiseTest::two, d -> d.setLimit(0, 3, 0));
    }

    private static void addTenant() {
        Check.part("promise 5");
        TenantPlacement desk = shardsOf(300, 300);
        Check.due("first", 0, desk.addTenant(1, 1, 100, 2, 9));
        Check.due("second", 1, desk.addTenant(0, 100, 1, 100, 0));
        Check.due("served at once", 1, desk.servedBy(0));
        Check.due("the other", 0, desk.servedBy(1));
        Check.due("storage", 1, desk.sizeOf(0, 0));
        Check.due("load", 100, desk.sizeOf(0, 1));
        Check.due("connections", 2, desk.sizeOf(0, 2));
        used(desk, 1, 1, 100, 2);
        Check.due("no move", '-', desk.phase(0));
        desk.pass(24);
        Check.due("growth", 10, desk.sizeOf(0, 0));
        Check.due("no growth", 100, desk.sizeOf(1, 0));
        refuseShards("addTenant", PromiseTest::two, (d, s) -> d.addTenant(s, 1, 1, 1, 0));
        for (int wrong : new int[] {0, -1, 101, Integer.MIN_VALUE, Integer.MAX_VALUE}) {
            Check.refuses("storage " + wrong, ARGUMENT,
                PromiseTest::two, d -> d.addTenant(1, wrong, 1, 1, 0));
            Check.refuses("load " + wrong, ARGUMENT,
                PromiseTest::two, d -> d.addTenant(1, 1, wrong, 1, 0));
            Check.refuses("connections " + wrong, ARGUMENT,
                PromiseTest::two, d -> d.addTenant(1, 1, 1, wrong, 0));
        }
        for (int wrong : new int[] {-1, 10, Integer.MIN_VALUE, Integer.MAX_VALUE}) {
            Check.refuses("growth " + wrong, ARGUMENT,
                PromiseTest::two, d -> d.addTenant(1, 1, 1, 1, wrong));
        }
    }

    private static void addTenantRoom() {
        Check.part("promise 5");
        for (int m = 0; m < 3; m++) {
            int measure = m;
            Supplier<TenantPlacement> tight = () -> {
                TenantPlacement desk = shardsOf(300, 300);
                desk.setLimit(0, measure, 99);
                desk.addTenant(0, 50, 50, 50, 0);
                return desk;
            };
            Check.refuses("one too much of " + measure, OPERATION,
                tight, d -> d.addTenant(0, 50, 50, 50, 0));
            TenantPlacement desk = tight.get();
            Check.due("just room", 1, desk.addTenant(0, 49, 49, 49, 0));
        }
        Supplier<TenantPlacement> closed = () -> {
            TenantPlacement desk = two();
            desk.setOpen(1, false);
            return desk;
        };
        Check.refuses("closed", OPERATION, closed, d -> d.addTenant(1, 1, 1, 1, 0));
        Check.refuses("a seventh", STATE,
            PromiseTest::sixTenants, d -> d.addTenant(1, 1, 1, 1, 0));
        Supplier<TenantPlacement> full = () -> {
            TenantPlacement desk = sixTenants();
            desk.setOpen(0, false);
            desk.setLimit(1, 2, 180);
            return desk;
        };
        Check.refuses("a seventh, closed", OPERATION, full, d -> d.addTenant(0, 1, 1, 1, 0));
        Check.refuses("a seventh, no room", OPERATION, full, d -> d.addTenant(1, 1, 1, 1, 0));
        Check.refuses("a seventh, no size", ARGUMENT, full, d -> d.addTenant(0, 1, 0, 1, 0));
        Check.refuses("a seventh, no shard", INDEX, full, d -> d.addTenant(2, 1, 0, 1, 0));
    }

    private static void setSize() {
        Check.part("promise 6");
        TenantPlacement desk = shardsOf(100, 100);
        desk.addTenant(0, 45, 30, 20, 5);
        Check.due("load", 30, desk.setSize(0, 1, 100));
        Check.due("connections", 20, desk.setSize(0, 2, 1));
        Check.due("load again", 100, desk.setSize(0, 1, 1));
        Check.due("connections again", 1, desk.setSize(0, 2, 100));
        used(desk, 0, 45, 1, 100);
        Check.due("storage stays", 45, desk.sizeOf(0, 0));
        desk.setLimit(0, 1, 50);
        desk.setSize(0, 1, 51);
        Check.due("over", true, desk.isOver(0));
        refuseTenants("setSize", PromiseTest::two, (d, t) -> d.setSize(t, 1, 1));
        for (int wrong : new int[] {0, 3, -1, Integer.MIN_VALUE, Integer.MAX_VALUE}) {
            Check.refuses("measure " + wrong, ARGUMENT,
                PromiseTest::two, d -> d.setSize(0, wrong, 50));
        }
        for (int wrong : new int[] {0, -1, 101, Integer.MIN_VALUE, Integer.MAX_VALUE}) {
            Check.refuses("size " + wrong, ARGUMENT,
                PromiseTest::two, d -> d.setSize(0, 2, wrong));
        }
        Check.refuses("no tenant first", INDEX, PromiseTest::two, d -> d.setSize(2, 0, 0));
    }

    private static void setSizeUnderMove() {
        Check.part("promise 6");
        TenantPlacement desk = copying();
        desk.setSize(0, 1, 77);
        used(desk, 0, 85, 87, 30);
        used(desk, 1, 45, 77, 20);
        desk.pass(3);
        desk.setSize(0, 2, 66);
        used(desk, 0, 85, 87, 76);
        used(desk, 1, 45, 77, 66);
        desk.pass(1);
        desk.setSize(0, 1, 11);
        used(desk, 0, 85, 10, 10);
        used(desk, 1, 45, 11, 66);
    }

    private static void setWindow() {
        Check.part("promise 7");
        TenantPlacement desk = two();
        Check.due("5 to 7", 2, desk.setWindow(0, 5, 7));
        Check.due("0 to 23", 23, desk.setWindow(0, 0, 23));
        Check.due("23 to 0", 1, desk.setWindow(0, 23, 0));
        Check.due("22 to 3", 5, desk.setWindow(0, 22, 3));
        Check.due("1 to 0", 23, desk.setWindow(0, 1, 0));
        Check.due("0 to 0", 24, desk.setWindow(0, 0, 0));
        Check.due("23 to 23", 24, desk.setWindow(0, 23, 23));
        for (int wrong : new int[] {-1, 24, Integer.MIN_VALUE, Integer.MAX_VALUE}) {
            Check.refuses("first " + wrong, ARGUMENT,
                PromiseTest::following, d -> d.setWindow(0, wrong, 5));
            Check.refuses("end " + wrong, ARGUMENT,
                PromiseTest::following, d -> d.setWindow(0, 5, wrong));
        }
        refuseTenants("setWindow", PromiseTest::two, (d, t) -> d.setWindow(t, 1, 2));
        Check.refuses("no tenant first", INDEX, PromiseTest::two, d -> d.setWindow(2, 24, 24));
    }

    private static void keepApart() {
        Check.part("promise 8");
        TenantPlacement desk = sixTenants();
        Check.due("first pair", 1, desk.keepApart(0, 1));
        Check.due("second pair", 2, desk.keepApart(5, 0));
        Check.due("both stay", 1, desk.servedBy(0));
        Check.due("and the other", 1, desk.servedBy(1));
        Check.due("third pair", 3, desk.keepApart(1, 5));
        Check.due("fourth pair", 4, desk.keepApart(2, 3));
        Check.due("fifth pair", 5, desk.keepApart(2, 4));
        Check.due("sixth pair", 6, desk.keepApart(4, 3));
        refuseTenants("keepApart with", PromiseTest::two, (d, t) -> d.keepApart(t, 0));
        refuseTenants("keepApart from", PromiseTest::two, (d, t) -> d.keepApart(0, t));
        Check.refuses("the same", ARGUMENT, PromiseTest::two, d -> d.keepApart(1, 1));
        Check.refuses("no tenant first", INDEX, PromiseTest::two, d -> d.keepApart(7, 7));
        Supplier<TenantPlacement> full = () -> {
            TenantPlacement six = sixTenants();
            six.keepApart(0, 1);
            six.keepApart(0, 2);
            six.keepApart(0, 3);
            six.keepApart(4, 0);
            six.keepApart(0, 5);
            six.keepApart(1, 2);
            return six;
        };
        Check.refuses("a seventh pair", STATE, full, d -> d.keepApart(1, 3));
        Check.refuses("one again", OPERATION, full, d -> d.keepApart(0, 4));
        Check.refuses("one again, turned round", OPERATION, full, d -> d.keepApart(4, 0));
        Check.refuses("the same, full", ARGUMENT, full, d -> d.keepApart(3, 3));
    }

    private static void move() {
        Check.part("promise 9");
        int[][] storageAndHours = {{1, 1}, {19, 1}, {20, 1}, {21, 2}, {40, 2}, {41, 3}, {100, 5}};
        for (int[] pair : storageAndHours) {
            TenantPlacement desk = shardsOf(300, 300);
            desk.addTenant(0, pair[0], 10, 20, 0);
            Check.due("copying " + pair[0], pair[1], desk.move(0, 1));
            Check.due("it is copied", 'c', desk.phase(0));
            Check.due("and still served by the source", 0, desk.servedBy(0));
            used(desk, 0, pair[0], 10, 20);
            used(desk, 1, pair[0], 10, 20);
            for (int left = pair[1]; left > 0; left--) {
                Check.due("still copied", 'c', desk.phase(0));
                desk.pass(1);
            }
            Check.due("copied", 'f', desk.phase(0));
        }
        refuseTenants("move", PromiseTest::two, (d, t) -> d.move(t, 1));
        refuseShards("move", PromiseTest::two, (d, s) -> d.move(0, s));
        Check.refuses("has a move", OPERATION, PromiseTest::copying, d -> d.move(0, 1));
        Check.refuses("served by it", OPERATION, PromiseTest::two, d -> d.move(0, 0));
        Supplier<TenantPlacement> closed = () -> {
            TenantPlacement desk = two();
            desk.setOpen(1, false);
            return desk;
        };
        Check.refuses("closed", OPERATION, closed, d -> d.move(0, 1));
    }

    private static void moveLimit() {
        Check.part("promise 9");
        Check.refuses("a fourth move", STATE, PromiseTest::threeMoves, d -> d.move(1, 1));
        Check.refuses("a fourth without room", OPERATION,
            PromiseTest::threeMoves, d -> d.move(1, 2));
        Check.refuses("a fourth to nowhere", INDEX, PromiseTest::threeMoves, d -> d.move(1, 3));
        TenantPlacement desk = threeMoves();
        desk.fail(0);
        Check.due("room for a third again", 3, desk.move(1, 1));
        TenantPlacement cleaning = threeMoves();
        cleaning.pass(4);
        Check.due("cleaning counts", 'd', cleaning.phase(3));
        Check.refuses("a fourth beside cleaning", STATE, () -> {
            TenantPlacement it = threeMoves();
            it.pass(5);
            return it;
        }, d -> d.move(1, 1));
        cleaning.pass(2);
        Check.due("none is under way", 3, cleaning.move(1, 1));
    }

    private static void reason() {
        Check.part("promise 10");
        TenantPlacement desk = two();
        Check.due("served by it", 's', desk.reason(0, 0));
        Check.due("nothing", 'n', desk.reason(0, 1));
        desk.setOpen(0, false);
        desk.setOpen(1, false);
        Check.due("served and closed", 's', desk.reason(0, 0));
        Check.due("closed", 'c', desk.reason(0, 1));
        desk.setOpen(1, true);
        desk.setLimit(1, 2, 19);
        Check.due("no room of connections", 'r', desk.reason(0, 1));
        desk.setLimit(1, 2, 20);
        Check.due("just room of connections", 'n', desk.reason(0, 1));
        desk.setLimit(1, 1, 29);
        Check.due("no room of load", 'r', desk.reason(0, 1));
        desk.setLimit(1, 1, 30);
        Check.due("just room of load", 'n', desk.reason(0, 1));
        desk.setLimit(1, 0, 44);
        Check.due("no room of storage", 'r', desk.reason(0, 1));
        desk.setLimit(1, 0, 45);
        Check.due("just room of storage", 'n', desk.reason(0, 1));
        desk.move(0, 1);
        Check.due("has a move, target", 'm', desk.reason(0, 1));
        Check.due("has a move, source", 'm', desk.reason(0, 0));
        Check.due("another has no room beside it", 'r', desk.reason(1, 1));
        desk.pass(4);
        Check.due("cleaning is a move", 'm', desk.reason(0, 0));
        refuseTenants("reason", PromiseTest::two, (d, t) -> d.reason(t, 1));
        refuseShards("reason", PromiseTest::two, (d, s) -> d.reason(0, s));
        refuseShards("reason under a move", PromiseTest::copying, (d, s) -> d.reason(0, s));
    }

    private static void reasonBarred() {
        Check.part("promise 10");
        TenantPlacement desk = shardsOf(300, 100, 100);
        desk.addTenant(0, 20, 10, 10, 0);
        desk.addTenant(0, 90, 90, 90, 0);
        desk.keepApart(1, 0);
        desk.move(0, 1);
        Check.due("barred by one that is copied there", 'p', desk.reason(1, 1));
        Check.due("not elsewhere", 'n', desk.reason(1, 2));
        desk.pass(1);
        Check.due("barred by one that follows there", 'p', desk.reason(1, 1));
        desk.setOpen(1, false);
        Check.due("closed comes first", 'c', desk.reason(1, 1));
        desk.setOpen(1, true);
        desk.pass(1);
        Check.due("barred by one that is served there", 'p', desk.reason(1, 1));
        desk.pass(2);
        desk.move(1, 2);
        desk.pass(6);
        Check.due("served by the third now", 2, desk.servedBy(1));
        Check.due("barred from there in turn", 'p', desk.reason(0, 2));
        Check.due("cleaning its source, it is not present there", 'n', desk.reason(0, 0));
        TenantPlacement failed = shardsOf(300, 300);
        failed.addTenant(0, 20, 10, 10, 0);
        failed.addTenant(0, 20, 10, 10, 0);
        failed.keepApart(0, 1);
        failed.move(0, 1);
        failed.fail(0);
        Check.due("not barred by a move that failed", 'n', failed.reason(1, 1));
    }

    private static void fail() {
        Check.part("promise 11");
        TenantPlacement desk = copying();
        Check.due("in copying", 'e', desk.fail(0));
        Check.due("no move", '-', desk.phase(0));
        Check.due("no moves", 0, desk.moves());
        Check.due("served as before", 0, desk.servedBy(0));
        used(desk, 0, 85, 40, 30);
        used(desk, 1, 0, 0, 0);
        Check.due("not switched", 0, desk.switches());
        TenantPlacement later = following();
        Check.due("in following", 'e', later.fail(0));
        Check.due("served as before", 0, later.servedBy(0));
        used(later, 1, 0, 0, 0);
        Check.due("a new move copies all again", 3, later.move(0, 1));
        later.pass(2);
        Check.due("still copying", 'c', later.phase(0));
        refuseTenants("fail", PromiseTest::copying, (d, t) -> d.fail(t));
        Check.refuses("no move", STATE, PromiseTest::copying, d -> d.fail(1));
        Check.refuses("a move that is over", STATE, () -> {
            TenantPlacement over = cleaning();
            over.pass(2);
            return over;
        }, d -> d.fail(0));
    }

    private static void failBack() {
        Check.part("promise 11");
        TenantPlacement desk = cleaning();
        desk.pass(1);
        Check.due("back", 'b', desk.fail(0));
        Check.due("the source serves", 0, desk.servedBy(0));
        Check.due("and is the target", 0, desk.targetOf(0));
        Check.due("cleaning", 'd', desk.phase(0));
        hours(desk, 0, 2);
        Check.due("switched twice", 2, desk.switches());
        used(desk, 0, 85, 40, 30);
        used(desk, 1, 45, 0, 0);
        Check.due("and back once more", 'b', desk.fail(0));
        Check.due("the target serves", 1, desk.servedBy(0));
        Check.due("and is the target", 1, desk.targetOf(0));
        Check.due("switched three times", 3, desk.switches());
        used(desk, 0, 85, 10, 10);
        used(desk, 1, 45, 30, 20);
        Check.due("nobody is cut over", 0, desk.pass(2));
        Check.due("over", '-', desk.phase(0));
        used(desk, 0, 40, 10, 10);
        used(desk, 1, 45, 30, 20);
        // Storage does not count, and its own load and connections count only once.
        TenantPlacement tight = cleaning();
        tight.setLimit(0, 0, 1);
        tight.setLimit(0, 1, 40);
        tight.setLimit(0, 2, 30);
        Check.due("just room of load and connections", 'b', tight.fail(0));
    }

    private static void failAnew() {
        Check.part("promise 11");
        for (int kind = 0; kind < 5; kind++) {
            TenantPlacement desk = cleaning();
            desk.pass(1);
            hours(desk, 0, 1);
            if (kind == 0) {
                desk.setOpen(0, false);
            } else if (kind == 1) {
                desk.keepApart(0, 1);
            } else if (kind == 2) {
                desk.setLimit(0, 1, 39);
            } else if (kind == 3) {
                desk.setLimit(0, 2, 29);
            } else {
                desk.setSize(1, 1, 100);
                desk.setLimit(0, 1, 129);
            }
            Check.due("anew, kind " + kind, 'a', desk.fail(0));
            Check.due("cleaning", 'd', desk.phase(0));
            hours(desk, 0, 2);
            Check.due("the target serves", 1, desk.servedBy(0));
            Check.due("it is the target", 1, desk.targetOf(0));
            Check.due("switched once", 1, desk.switches());
            used(desk, 1, 45, 30, 20);
            desk.pass(1);
            Check.due("still cleaning", 'd', desk.phase(0));
            desk.pass(1);
            Check.due("over", '-', desk.phase(0));
        }
        TenantPlacement barred = shardsOf(300, 300, 300);
        barred.addTenant(0, 20, 10, 10, 0);
        barred.addTenant(2, 50, 10, 10, 0);
        barred.keepApart(0, 1);
        barred.move(0, 1);
        barred.pass(2);
        barred.move(1, 0);
        Check.due("barred by one that is copied to the source", 'a', barred.fail(0));
        barred.fail(1);
        Check.due("not barred any more", 'b', barred.fail(0));
    }

    private static void pass() {
        Check.part("promise 12");
        TenantPlacement desk = copying();
        Check.due("two hours of copying", 0, desk.pass(2));
        Check.due("copying", 'c', desk.phase(0));
        Check.due("the third", 0, desk.pass(1));
        Check.due("following", 'f', desk.phase(0));
        used(desk, 0, 85, 40, 30);
        used(desk, 1, 45, 30, 20);
        Check.due("cut over", 1, desk.pass(1));
        Check.due("cleaning", 'd', desk.phase(0));
        Check.due("the target serves", 1, desk.servedBy(0));
        used(desk, 0, 85, 10, 10);
        used(desk, 1, 45, 30, 20);
        Check.due("an hour of cleaning", 0, desk.pass(1));
        Check.due("cleaning", 'd', desk.phase(0));
        Check.due("the last", 0, desk.pass(1));
        Check.due("over", '-', desk.phase(0));
        used(desk, 0, 40, 10, 10);
        Check.due("at once", 1, copying().pass(48));
        Check.due("three at once", 3, threeMoves().pass(4));
        Check.due("not yet", 0, threeMoves().pass(3));
        for (int wrong : new int[] {0, -1, 49, Integer.MIN_VALUE, Integer.MAX_VALUE}) {
            Check.refuses("hours " + wrong, ARGUMENT, PromiseTest::copying, d -> d.pass(wrong));
        }
    }

    private static void passOrder() {
        Check.part("promise 12");
        Check.due("window 5 to 7", 5, hourOfCutting(5, 7));
        Check.due("window 3 to 4", 3, hourOfCutting(3, 4));
        Check.due("window 2 to 4", 3, hourOfCutting(2, 4));
        Check.due("window 2 to 3", 26, hourOfCutting(2, 3));
        Check.due("window 23 to 0", 23, hourOfCutting(23, 0));
        Check.due("window 22 to 4", 3, hourOfCutting(22, 4));
        Check.due("window 22 to 3", 22, hourOfCutting(22, 3));
        Check.due("window 0 to 1", 24, hourOfCutting(0, 1));
        Check.due("window 4 to 2", 4, hourOfCutting(4, 2));
        Check.due("window 9 to 9", 3, hourOfCutting(9, 9));
    }

    private static void passGrowth() {
        Check.part("promise 12");
        TenantPlacement desk = two();
        desk.pass(23);
        Check.due("before the day ends", 45, desk.sizeOf(0, 0));
        desk.pass(1);
        Check.due("as it ends", 50, desk.sizeOf(0, 0));
        Check.due("no growth", 40, desk.sizeOf(1, 0));
        Check.due("load does not grow", 30, desk.sizeOf(0, 1));
        Check.due("connections do not grow", 20, desk.sizeOf(0, 2));
        desk.pass(48);
        Check.due("two days more", 60, desk.sizeOf(0, 0));
        used(desk, 0, 100, 40, 30);
        // Growth counts on both shards of a move, in copying, following and cleaning.
        for (int late = 1; late <= 5; late++) {
            TenantPlacement moving = two();
            moving.pass(24 - late);
            moving.move(0, 1);
            moving.pass(late);
            Check.due("grown", 50, moving.sizeOf(0, 0));
            used(moving, 0, 90, late < 4 ? 40 : 10, late < 4 ? 30 : 10);
            used(moving, 1, 50, 30, 20);
        }
        TenantPlacement big = shardsOf(300);
        big.addTenant(0, 100, 1, 1, 9);
        for (int i = 0; i < 49; i++) {
            big.pass(48);
        }
        Check.due("98 days", 982, big.sizeOf(0, 0));
        big.pass(48);
        Check.due("to 999 at most", 999, big.sizeOf(0, 0));
        big.pass(24);
        Check.due("and not on", 999, big.sizeOf(0, 0));
        used(big, 0, 999, 1, 1);
    }

    private static void time() {
        Check.part("promise 13");
        TenantPlacement desk = empty();
        desk.pass(1);
        Check.due("one", 1, desk.time());
        desk.pass(48);
        Check.due("more", 49, desk.time());
        desk.addShard(1, 1, 1);
        Check.due("only passing counts", 49, desk.time());
    }

    private static void phase() {
        Check.part("promise 14");
        Check.due("none", '-', two().phase(0));
        Check.due("copying", 'c', copying().phase(0));
        Check.due("of another", '-', copying().phase(1));
        Check.due("following", 'f', following().phase(0));
        Check.due("cleaning", 'd', cleaning().phase(0));
        refuseTenants("phase", PromiseTest::copying, (d, t) -> d.phase(t));
    }

    private static void targetOf() {
        Check.part("promise 15");
        Check.due("copying", 1, copying().targetOf(0));
        Check.due("following", 1, following().targetOf(0));
        Check.due("cleaning", 1, cleaning().targetOf(0));
        TenantPlacement back = cleaning();
        back.fail(0);
        Check.due("gone back", 0, back.targetOf(0));
        refuseTenants("targetOf", PromiseTest::copying, (d, t) -> d.targetOf(t));
        Check.refuses("no move", ELEMENT, PromiseTest::copying, d -> d.targetOf(1));
    }

    private static void hoursLeft() {
        Check.part("promises 16 and 17");
        hours(copying(), 0, 6);
        hours(following(), 0, 3);
        hours(cleaning(), 0, 2);
        int[][] windows = {
            {5, 7, 8}, {3, 4, 6}, {2, 4, 6}, {2, 3, 29}, {23, 0, 26}, {22, 4, 6}, {22, 3, 25},
            {0, 1, 27}, {4, 2, 7}, {0, 23, 6}, {9, 9, 6},
        };
        for (int[] window : windows) {
            TenantPlacement desk = copying();
            desk.setWindow(0, window[0], window[1]);
            hours(desk, 0, window[2]);
            int left = window[2];
            while (left > 0) {
                hours(desk, 0, left);
                desk.pass(1);
                left--;
            }
            Check.due("over then", '-', desk.phase(0));
        }
        TenantPlacement day = two();
        day.pass(23);
        day.move(0, 1);
        day.setWindow(0, 1, 2);
        hours(day, 0, 29);
        day.setWindow(0, 2, 3);
        hours(day, 0, 6);
        day.pass(1);
        hours(day, 0, 5);
        refuseTenants("hoursLeft", PromiseTest::copying, (d, t) -> d.hoursLeft(t));
        refuseTenants("hoursByPassing", PromiseTest::copying, (d, t) -> d.hoursByPassing(t));
        Check.refuses("hoursLeft, no move", ELEMENT, PromiseTest::copying, d -> d.hoursLeft(1));
        Check.refuses("hoursByPassing, no move", ELEMENT,
            PromiseTest::copying, d -> d.hoursByPassing(1));
        TenantPlacement looked = copying();
        String before = State.of(looked);
        looked.hoursByPassing(0);
        Check.due("looking lets no hour pass", before, State.of(looked));
    }

    private static void moves() {
        Check.part("promise 18");
        Check.due("none", 0, two().moves());
        Check.due("copying", 1, copying().moves());
        Check.due("following", 1, following().moves());
        TenantPlacement desk = cleaning();
        Check.due("cleaning", 1, desk.moves());
        desk.fail(0);
        Check.due("gone back", 1, desk.moves());
        desk.pass(2);
        Check.due("over", 0, desk.moves());
        Check.due("three", 3, threeMoves().moves());
    }

    private static void shards() {
        Check.part("promise 19");
        TenantPlacement desk = empty();
        for (int count = 1; count <= 4; count++) {
            desk.addShard(1, 1, 1);
            Check.due("shards", count, desk.shards());
        }
        desk.setOpen(0, false);
        Check.due("closed ones count", 4, desk.shards());
    }

    private static void tenants() {
        Check.part("promise 20");
        TenantPlacement desk = shardsOf(300);
        for (int count = 1; count <= 6; count++) {
            desk.addTenant(0, 1, 1, 1, 0);
            Check.due("tenants", count, desk.tenants());
        }
    }

    private static void servedBy() {
        Check.part("promise 21");
        Check.due("at first", 0, two().servedBy(0));
        Check.due("copying", 0, copying().servedBy(0));
        Check.due("following", 0, following().servedBy(0));
        Check.due("cleaning", 1, cleaning().servedBy(0));
        Check.due("another", 0, cleaning().servedBy(1));
        refuseTenants("servedBy", PromiseTest::two, (d, t) -> d.servedBy(t));
        refuseTenants("servedBy, full", PromiseTest::full, (d, t) -> d.servedBy(t));
    }

    private static void sizeOf() {
        Check.part("promise 22");
        TenantPlacement desk = two();
        Check.due("storage", 45, desk.sizeOf(0, 0));
        Check.due("load", 30, desk.sizeOf(0, 1));
        Check.due("connections", 20, desk.sizeOf(0, 2));
        Check.due("of another", 40, desk.sizeOf(1, 0));
        refuseTenants("sizeOf", PromiseTest::two, (d, t) -> d.sizeOf(t, 0));
        refuseMeasures("sizeOf", PromiseTest::two, (d, m) -> d.sizeOf(0, m));
    }

    private static void used() {
        Check.part("promises 23 and 24");
        TenantPlacement desk = shardsOf(300, 300, 300);
        used(desk, 0, 0, 0, 0);
        desk.addTenant(0, 21, 2, 3, 0);
        desk.addTenant(0, 30, 5, 7, 0);
        desk.addTenant(2, 50, 11, 13, 0);
        used(desk, 0, 51, 7, 10);
        used(desk, 1, 0, 0, 0);
        used(desk, 2, 50, 11, 13);
        desk.move(0, 2);
        desk.move(2, 1);
        used(desk, 0, 51, 7, 10);
        used(desk, 1, 50, 11, 13);
        used(desk, 2, 71, 13, 16);
        desk.pass(3);
        used(desk, 0, 51, 5, 7);
        used(desk, 1, 50, 11, 13);
        used(desk, 2, 71, 13, 16);
        desk.pass(1);
        used(desk, 0, 51, 5, 7);
        used(desk, 2, 71, 2, 3);
        desk.pass(2);
        used(desk, 0, 30, 5, 7);
        used(desk, 1, 50, 11, 13);
        used(desk, 2, 21, 2, 3);
        refuseShards("used", PromiseTest::two, (d, s) -> d.used(s, 0));
        refuseMeasures("used", PromiseTest::two, (d, m) -> d.used(0, m));
        refuseShards("usedByLooking", PromiseTest::two, (d, s) -> d.usedByLooking(s, 0));
        refuseMeasures("usedByLooking", PromiseTest::two, (d, m) -> d.usedByLooking(0, m));
    }

    private static void isOver() {
        Check.part("promise 25");
        int[] uses = {85, 40, 30};
        for (int measure = 0; measure < 3; measure++) {
            TenantPlacement desk = two();
            Check.due("not", false, desk.isOver(0));
            desk.setLimit(0, measure, uses[measure]);
            Check.due("just not", false, desk.isOver(0));
            desk.setLimit(0, measure, uses[measure] - 1);
            Check.due("by measure " + measure, true, desk.isOver(0));
            Check.due("another shard", false, desk.isOver(1));
        }
        TenantPlacement cleaned = cleaning();
        cleaned.setLimit(0, 0, 84);
        Check.due("what is cleaned counts", true, cleaned.isOver(0));
        cleaned.pass(2);
        Check.due("until it is clean", false, cleaned.isOver(0));
        TenantPlacement copied = copying();
        copied.setLimit(1, 1, 29);
        Check.due("what is copied counts", true, copied.isOver(1));
        refuseShards("isOver", PromiseTest::two, (d, s) -> d.isOver(s));
    }

    private static void served() {
        Check.part("promise 26");
        Check.due("two", 2, two().served(0));
        Check.due("none", 0, two().served(1));
        Check.due("not yet", 0, following().served(1));
        Check.due("still", 2, following().served(0));
        Check.due("cut over", 1, cleaning().served(1));
        Check.due("cut over from", 1, cleaning().served(0));
        refuseShards("served", PromiseTest::two, (d, s) -> d.served(s));
        refuseShards("served, full", PromiseTest::full, (d, s) -> d.served(s));
    }

    private static void fewestMoves() {
        Check.part("promises 27 and 28");
        TenantPlacement desk = brim();
        fewest(desk, 0);
        for (int measure = 0; measure < 3; measure++) {
            TenantPlacement tight = brim();
            tight.setLimit(0, measure, 99);
            fewest(tight, 1);
            tight.setLimit(0, measure, 10);
            fewest(tight, 2);
            tight.setLimit(0, measure, 9);
            fewest(tight, 3);
        }
        desk.keepApart(0, 1);
        fewest(desk, 1);
        desk.keepApart(1, 2);
        fewest(desk, 1);
        desk.keepApart(0, 2);
        fewest(desk, 2);
        desk.setOpen(0, false);
        Check.refuses("fewestMoves, none is sound", ELEMENT,
            PromiseTest::hopeless, d -> d.fewestMoves());
        Check.refuses("fewestByTrying, none is sound", ELEMENT,
            PromiseTest::hopeless, d -> d.fewestByTrying());
        desk.setOpen(0, true);
        desk.setOpen(2, false);
        Check.due("three apart on two", 0, desk.soundPlans());
        // Moves under way do not matter: the tenant counts where it is served, and only there.
        TenantPlacement moving = brim();
        moving.setLimit(0, 0, 90);
        moving.move(2, 1);
        moving.setLimit(1, 0, 9);
        fewest(moving, 1);
        plan(moving, 0, 0, 2);
        moving.pass(3);
        Check.due("cleaning now", 'd', moving.phase(2));
        fewest(moving, 1);
        plan(moving, 0, 0, 2);
        moving.setLimit(1, 0, 10);
        fewest(moving, 0);
        plan(moving, 0, 0, 1);
    }

    private static void planned() {
        Check.part("promise 29");
        plan(brim(), 0, 0, 0);
        TenantPlacement desk = brim();
        desk.setLimit(0, 0, 99);
        plan(desk, 0, 0, 1);
        desk.setOpen(1, false);
        plan(desk, 0, 0, 2);
        desk.setLimit(0, 0, 70);
        plan(desk, 0, 2, 0);
        desk.setOpen(1, true);
        plan(desk, 0, 1, 0);
        desk.setLimit(0, 0, 59);
        plan(desk, 1, 0, 0);
        desk.keepApart(1, 2);
        fewest(desk, 2);
        plan(desk, 1, 0, 1);
        desk.setOpen(0, false);
        plan(desk, 1, 1, 2);
        // The larger tenant fits only where the first ones were tried in vain.
        TenantPlacement swap = shardsOf(100, 100, 50);
        swap.addTenant(0, 50, 50, 50, 0);
        swap.addTenant(0, 50, 50, 50, 0);
        swap.addTenant(1, 60, 60, 60, 0);
        swap.setLimit(1, 0, 50);
        fewest(swap, 3);
        plan(swap, 1, 2, 0);
        // All six tenants must go.
        TenantPlacement six = full();
        six.setOpen(0, false);
        fewest(six, 6);
        plan(six, 1, 1, 1, 1, 1, 1);
        // The fewest moves weigh more than lower shards.
        TenantPlacement high = shardsOf(100, 100);
        high.addTenant(1, 10, 10, 10, 0);
        high.addTenant(0, 10, 10, 10, 0);
        plan(high, 1, 0);
        high.keepApart(0, 1);
        plan(high, 1, 0);
        refuseTenants("planned", PromiseTest::brim, (d, t) -> d.planned(t));
        Check.refuses("none is sound", ELEMENT, PromiseTest::hopeless, d -> d.planned(0));
        Check.refuses("no tenant first", INDEX, PromiseTest::hopeless, d -> d.planned(3));
    }

    private static void soundPlans() {
        Check.part("promise 30");
        Check.due("all", 27, brim().soundPlans());
        TenantPlacement apart = brim();
        apart.keepApart(0, 1);
        Check.due("two apart", 18, apart.soundPlans());
        apart.keepApart(0, 2);
        apart.keepApart(1, 2);
        Check.due("three apart", 6, apart.soundPlans());
        apart.setOpen(1, false);
        Check.due("one closed", 0, apart.soundPlans());
        TenantPlacement tight = brim();
        tight.setLimit(0, 2, 90);
        Check.due("not all three on 0", 26, tight.soundPlans());
        tight.setLimit(0, 2, 89);
        Check.due("nor the larger two", 24, tight.soundPlans());
        tight.setOpen(0, false);
        Check.due("only two are open", 8, tight.soundPlans());
        Check.due("none", 0, hopeless().soundPlans());
        TenantPlacement most = shardsOf(300, 300, 300, 300);
        for (int tenant = 0; tenant < 6; tenant++) {
            most.addTenant(tenant % 4, 50, 50, 50, 0);
        }
        Check.due("the most", 4096, most.soundPlans());
    }

    private static void plansWithoutMuch() {
        Check.part("promises 27 to 30");
        Check.due("no shards", 1, empty().soundPlans());
        fewest(empty(), 0);
        Check.due("no tenants", 1, shardsOf(10, 20).soundPlans());
        fewest(shardsOf(10, 20), 0);
        TenantPlacement closed = shardsOf(10);
        closed.setOpen(0, false);
        Check.due("no tenants, all closed", 1, closed.soundPlans());
        fewest(closed, 0);
        TenantPlacement alone = two();
        alone.setOpen(0, false);
        fewest(alone, 2);
        alone.setOpen(1, false);
        Check.due("all closed", 0, alone.soundPlans());
    }

    private static void switches() {
        Check.part("promise 31");
        Check.due("none", 0, following().switches());
        TenantPlacement desk = cleaning();
        Check.due("cut over", 1, desk.switches());
        desk.fail(0);
        Check.due("served again", 2, desk.switches());
        desk.setOpen(1, false);
        desk.fail(0);
        Check.due("cleaning anew does not count", 2, desk.switches());
        TenantPlacement three = threeMoves();
        three.fail(0);
        Check.due("failed", 0, three.switches());
        three.pass(48);
        Check.due("two", 2, three.switches());
    }

    private static void hoursOver() {
        Check.part("promise 32");
        TenantPlacement desk = two();
        desk.pass(10);
        Check.due("never", 0L, desk.hoursOver());
        desk.setLimit(0, 1, 39);
        Check.due("before an hour passes", 0L, desk.hoursOver());
        desk.pass(1);
        Check.due("two tenants, one hour", 2L, desk.hoursOver());
        desk.pass(5);
        Check.due("six hours", 12L, desk.hoursOver());
        desk.setLimit(0, 1, 40);
        desk.pass(5);
        Check.due("not any more", 12L, desk.hoursOver());
        // The hour counts for where it began: the cut over at its end comes too late for it.
        TenantPlacement cut = following();
        cut.setLimit(0, 1, 39);
        cut.pass(1);
        Check.due("served by the source as it began", 2L, cut.hoursOver());
        cut.pass(1);
        Check.due("the source is not over any more", 2L, cut.hoursOver());
        TenantPlacement to = following();
        to.setLimit(1, 1, 29);
        to.pass(1);
        Check.due("only copied there", 0L, to.hoursOver());
        to.pass(1);
        Check.due("served there", 1L, to.hoursOver());
        // Growth comes after the hour.
        TenantPlacement grown = two();
        grown.setLimit(0, 0, 85);
        grown.pass(24);
        Check.due("grown as the day ended", 0L, grown.hoursOver());
        grown.pass(1);
        Check.due("over from then on", 2L, grown.hoursOver());
        // What is cleaned counts for those that the shard serves.
        TenantPlacement cleaned = cleaning();
        cleaned.setLimit(0, 0, 84);
        cleaned.pass(5);
        Check.due("as long as it is cleaned", 2L, cleaned.hoursOver());
    }

    private static void shareOf() {
        Check.part("promise 33");
        TenantPlacement desk = shardsOf(300, 3);
        desk.addTenant(0, 55, 100, 1, 0);
        Check.due("storage", (float) 55 / (float) 300, desk.shareOf(0, 0));
        Check.due("load", (float) 100 / (float) 300, desk.shareOf(0, 1));
        Check.due("connections", (float) 1 / (float) 300, desk.shareOf(0, 2));
        Check.due("nothing", 0f, desk.shareOf(1, 1));
        desk.setLimit(0, 1, 50);
        Check.due("twice", 2f, desk.shareOf(0, 1));
        desk.setLimit(0, 1, 1);
        Check.due("of a limit of 1", 100f, desk.shareOf(0, 1));
        TenantPlacement copied = copying();
        Check.due("what is copied", (float) 45 / (float) 300, copied.shareOf(1, 0));
        refuseShards("shareOf", PromiseTest::two, (d, s) -> d.shareOf(s, 0));
        refuseMeasures("shareOf", PromiseTest::two, (d, m) -> d.shareOf(0, m));
    }

    private static void meanStorage() {
        Check.part("promise 34");
        TenantPlacement one = shardsOf(300);
        one.addTenant(0, 7, 1, 1, 0);
        Check.due("one", 7.0, one.meanStorage());
        Check.due("two", 42.5, two().meanStorage());
        Check.due("a move counts once", 42.5, cleaning().meanStorage());
        TenantPlacement desk = two();
        desk.addTenant(1, 48, 1, 1, 0);
        Check.due("three", (double) 133 / (double) 3, desk.meanStorage());
        desk.pass(24);
        Check.due("grown", (double) 138 / (double) 3, desk.meanStorage());
        Check.refuses("no shards", ARITHMETIC, PromiseTest::empty, d -> d.meanStorage());
        Check.refuses("no tenants", ARITHMETIC, () -> shardsOf(10), d -> d.meanStorage());
    }
}
