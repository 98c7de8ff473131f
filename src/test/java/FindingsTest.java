import java.util.function.LongSupplier;

/** Each finding of each act is told by status(), once, and changes nothing else. */
final class FindingsTest {
    private final ChainedChest x = new ChainedChest();

    private FindingsTest() {
    }

    static void run() {
        new FindingsTest().noLocks();
        new FindingsTest().oneLock();
        new FindingsTest().sheets();
        new FindingsTest().full();
    }

    private void told(int promise, String call, int finding, LongSupplier act) {
        int which = Check.BEYOND - finding;
        int before = x.status(which);
        int all = x.status(-1);
        long state = state();
        Check.due(promise, call, act.getAsLong(), finding);
        Check.due(48, call + " is told", x.status(which), before + 1);
        Check.due(48, call + " is told once", x.status(-1), all + 1);
        Check.due(promise, call + " changes nothing", state(), state);
    }

    private long state() {
        long state = 0;
        for (int what = 0; what < 8; what++) {
            state = state * 1000003 + x.count(what);
        }
        for (int l = 0; l < x.count(1); l++) {
            for (int what = 0; what < 13; what++) {
                state = state * 31 + x.of(l, what);
            }
        }
        return state * 31 + x.now(2);
    }

    private void noLocks() {
        told(22, "wire()", Check.NONE, x::wire);
        told(24, "link()", Check.NONE, x::link);
        told(25, "linked()", Check.NONE, x::linked);
        told(26, "spared()", Check.NONE, x::spared);
        told(13, "ith(0)", Check.NONE, () -> x.ith(0));
        told(32, "friday(1)", Check.STATE, () -> x.friday(1));
        told(45, "undo()", Check.NONE, x::undo);
        told(2, "lock(-1)", Check.BEYOND, () -> x.lock(-1));
        told(3, "of(0, 0)", Check.BEYOND, () -> x.of(0, 0));
        told(4, "change(0, 0, 0)", Check.BEYOND, () -> x.change(0, 0, 0));
        told(5, "rule(2, 1)", Check.BEYOND, () -> x.rule(2, 1));
        told(6, "on(0)", Check.BEYOND, () -> x.on(0));
        told(9, "why(0)", Check.BEYOND, () -> x.why(0));
        told(10, "off(0)", Check.BEYOND, () -> x.off(0));
        told(23, "kindFor(0)", Check.BEYOND, () -> x.kindFor(0));
        told(37, "hold(0, 0)", Check.BEYOND, () -> x.hold(0, 0));
    }

    private void oneLock() {
        x.lock(1);
        x.change(0, 3, 1);
        x.change(0, 8, 1);
        x.rule(2, 1);
        told(10, "off(0)", Check.STATE, () -> x.off(0));
        told(12, "soonest()", Check.NONE, x::soonest);
        told(13, "ith(0)", Check.NONE, () -> x.ith(0));
        told(13, "ith(10)", Check.BEYOND, () -> x.ith(10));
        told(14, "quietest()", Check.NONE, x::quietest);
        told(15, "fewest()", Check.NONE, x::fewest);
        told(16, "ahead(0)", Check.NONE, () -> x.ahead(0));
        told(16, "ahead(2)", Check.BEYOND, () -> x.ahead(2));
        told(20, "tools()", Check.NONE, x::tools);
        told(21, "spare()", Check.NONE, x::spare);
        told(23, "kindFor(0)", Check.NONE, () -> x.kindFor(0));
        told(24, "link()", Check.NONE, x::link);
        told(25, "linked()", Check.NONE, x::linked);
        told(27, "surest(0)", Check.NONE, () -> x.surest(0));
        told(27, "surest(2)", Check.BEYOND, () -> x.surest(2));
        told(11, "now(7)", Check.BEYOND, () -> x.now(7));
        told(31, "hear(100)", Check.BEYOND, () -> x.hear(100));
        told(32, "friday(21)", Check.BEYOND, () -> x.friday(21));
        told(34, "feed(0, 0)", Check.BEYOND, () -> x.feed(0, 0));
        told(38, "as(10, 0)", Check.BEYOND, () -> x.as(10, 0));
        told(38, "as(0, 0)", Check.MISSING, () -> x.as(0, 0));
        x.hold(0, 0);
        told(38, "as(0, 2)", Check.KIND, () -> x.as(0, 2));
        told(47, "count(8)", Check.BEYOND, () -> x.count(8));
        told(48, "status(7)", Check.BEYOND, () -> x.status(7));
    }

    private void sheets() {
        x.lock(0);
        told(28, "fits(4)", Check.BEYOND, () -> x.fits(4));
        told(28, "fits(0)", Check.MISSING, () -> x.fits(0));
        told(29, "maybe(4)", Check.BEYOND, () -> x.maybe(4));
        told(29, "maybe(0)", Check.MISSING, () -> x.maybe(0));
        told(30, "surely(4)", Check.BEYOND, () -> x.surely(4));
        told(30, "surely(0)", Check.MISSING, () -> x.surely(0));
        told(39, "sheet(4, 8, 1)", Check.BEYOND, () -> x.sheet(4, 8, 1));
        told(39, "sheet(0, 8, -1)", Check.SIZE, () -> x.sheet(0, 8, -1));
        told(39, "sheet(0, 8, 41)", Check.BEYOND, () -> x.sheet(0, 8, 41));
        told(40, "write(4, 0, 0)", Check.BEYOND, () -> x.write(4, 0, 0));
        told(40, "write(0, 0, 0)", Check.MISSING, () -> x.write(0, 0, 0));
        told(41, "copy(4, 0, 0, 0, 0)", Check.BEYOND, () -> x.copy(4, 0, 0, 0, 0));
        told(41, "copy(0, 0, 0, 0, 0)", Check.MISSING, () -> x.copy(0, 0, 0, 0, 0));
        told(42, "load(4)", Check.BEYOND, () -> x.load(4));
        told(42, "load(0)", Check.MISSING, () -> x.load(0));
        told(43, "judge(4)", Check.BEYOND, () -> x.judge(4));
        told(43, "judge(0)", Check.MISSING, () -> x.judge(0));
        Check.fill(x, 0, 8, 9);
        Check.fill(x, 1, 16, 9);
        told(29, "maybe(0)", Check.NONE, () -> x.maybe(0));
        told(30, "surely(0)", Check.NONE, () -> x.surely(0));
        told(40, "write(0, 1, 0)", Check.BEYOND, () -> x.write(0, 1, 0));
        told(41, "copy(0, 0, 1, 0, 0)", Check.KIND, () -> x.copy(0, 0, 1, 0, 0));
        told(41, "copy(0, 0, 0, 0, 2)", Check.BEYOND, () -> x.copy(0, 0, 0, 0, 2));
    }

    private void full() {
        for (int i = 0; i < 10; i++) {
            x.lock(0);
        }
        told(2, "lock(0)", Check.FULL, () -> x.lock(0));
        for (int i = 0; i < 30; i++) {
            x.feed(0, 4);
        }
        told(34, "feed(0, 1)", Check.FULL, () -> x.feed(0, 1));
    }
}
