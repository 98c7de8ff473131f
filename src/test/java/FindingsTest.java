import java.util.function.Supplier;
import java.util.function.ToLongFunction;

/** Each finding of each act, by each of its arguments: told once by status(), and nothing else changes. */
final class FindingsTest {
    private static final int MIN = Integer.MIN_VALUE;
    private static final int MAX = Integer.MAX_VALUE;
    private static final int[] OUTSIDE = {MIN, -1000, -2, 100, MAX};

    private FindingsTest() {
    }

    static void run() {
        Check.sentence(0, "one that answers a finding changes nothing but status().");
        noLocks();
        noSuchLock();
        noSuchWhat();
        noSuchValue();
        noWayOut();
        barred();
        full();
        spots();
        noSheet();
        sheets();
    }

    /** Asks one of two alike, and then both what can be asked of them. */
    private static void refused(Supplier<ChainedChest> chest, int promise, String call, int finding, ToLongFunction<ChainedChest> act) {
        ChainedChest x = chest.get();
        ChainedChest twin = chest.get();
        Check.due(promise, call, act.applyAsLong(x), finding);
        for (int which = 0; which < 7; which++) {
            int told = Check.BEYOND - which == finding ? 1 : 0;
            Check.due(48, call + " is told as " + which, x.status(which), twin.status(which) + told);
        }
        Check.due(48, call + " is told once", x.status(-1), twin.status(-1) + 1);
        boolean alike = Dump.rest(x).equals(Dump.rest(twin));
        Check.edge(call, alike ? 1 : 0, 1);
    }

    /** Four LOCKS, some OFF, an image, a TEXT half fed, two SHEETS. */
    private static ChainedChest rich() {
        ChainedChest x = Check.with(0, 1, 2, 4);
        x.change(0, 2, 4);
        x.change(1, 3, 4);
        x.change(1, 6, 2);
        x.change(1, 7, 3);
        x.change(2, 8, 1);
        x.change(3, 9, 12);
        x.change(3, 4, 1);
        x.rule(0, 3);
        x.rule(1, 2);
        x.rule(2, 6);
        x.rule(3, 1);
        x.hold(0, 3);
        x.hold(9, 1);
        x.seed(4711);
        x.off(0);
        x.image();
        x.off(1);
        x.hold(2, 0);
        Check.feed(x, "spare 9");
        Check.fill(x, 0, 8, 5, 6, 7);
        Check.fill(x, 1, 16, 8, 9);
        return x;
    }

    private static ChainedChest noWay() {
        ChainedChest x = rich();
        x.change(3, 8, 8);
        x.rule(2, 8);
        return x;
    }

    private static ChainedChest fullOne() {
        ChainedChest x = rich();
        for (int l = 4; l < 10; l++) {
            x.lock(l - 3);
        }
        Check.feed(x, " ".repeat(113));
        return x;
    }

    private static void noLocks() {
        Supplier<ChainedChest> none = ChainedChest::new;
        refused(none, 13, "ith(0)", Check.NONE, x -> x.ith(0));
        refused(none, 22, "wire()", Check.NONE, ChainedChest::wire);
        refused(none, 24, "link()", Check.NONE, ChainedChest::link);
        refused(none, 25, "linked()", Check.NONE, ChainedChest::linked);
        refused(none, 26, "spared()", Check.NONE, ChainedChest::spared);
        refused(none, 32, "friday(1)", Check.STATE, x -> x.friday(1));
        refused(none, 45, "undo()", Check.NONE, ChainedChest::undo);
        refused(none, 5, "rule(2, 1)", Check.BEYOND, x -> x.rule(2, 1));
        refused(none, 37, "hold(0, 0)", Check.BEYOND, x -> x.hold(0, 0));
        refused(none, 3, "of(0, 0)", Check.BEYOND, x -> x.of(0, 0));
    }

    private static void noSuchLock() {
        Supplier<ChainedChest> rich = FindingsTest::rich;
        for (int v : new int[] {MIN, -1, 4, 10, 32, MAX}) {
            refused(rich, 3, "of(" + v + ", 1)", Check.BEYOND, x -> x.of(v, 1));
            refused(rich, 4, "change(" + v + ", 1, 1)", Check.BEYOND, x -> x.change(v, 1, 1));
            refused(rich, 6, "on(" + v + ")", Check.BEYOND, x -> x.on(v));
            refused(rich, 9, "why(" + v + ")", Check.BEYOND, x -> x.why(v));
            refused(rich, 10, "off(" + v + ")", Check.BEYOND, x -> x.off(v));
            refused(rich, 23, "kindFor(" + v + ")", Check.BEYOND, x -> x.kindFor(v));
            if (v != -1) {
                refused(rich, 37, "hold(0, " + v + ")", Check.BEYOND, x -> x.hold(0, v));
            }
        }
    }

    private static void noSuchWhat() {
        Supplier<ChainedChest> rich = FindingsTest::rich;
        for (int v : OUTSIDE) {
            refused(rich, 2, "lock(" + v + ")", Check.BEYOND, x -> x.lock(v));
            refused(rich, 3, "of(0, " + v + ")", Check.BEYOND, x -> x.of(0, v));
            refused(rich, 4, "change(0, " + v + ", 1)", Check.BEYOND, x -> x.change(0, v, 1));
            refused(rich, 5, "rule(" + v + ", 1)", Check.BEYOND, x -> x.rule(v, 1));
            refused(rich, 11, "now(" + v + ")", Check.BEYOND, x -> x.now(v));
            refused(rich, 13, "ith(" + v + ")", Check.BEYOND, x -> x.ith(v));
            refused(rich, 16, "ahead(" + v + ")", Check.BEYOND, x -> x.ahead(v));
            refused(rich, 27, "surest(" + v + ")", Check.BEYOND, x -> x.surest(v));
            refused(rich, 31, "hear(" + v + ")", Check.BEYOND, x -> x.hear(v));
            refused(rich, 32, "friday(" + v + ")", Check.BEYOND, x -> x.friday(v));
            refused(rich, 34, "feed(65, " + v + ")", Check.BEYOND, x -> x.feed(65, v));
            refused(rich, 47, "count(" + v + ")", Check.BEYOND, x -> x.count(v));
            refused(rich, 48, "status(" + v + ")", Check.BEYOND, x -> x.status(v));
        }
        refused(rich, 2, "lock(7)", Check.BEYOND, x -> x.lock(7));
        refused(rich, 4, "change(0, 10, 1)", Check.BEYOND, x -> x.change(0, 10, 1));
        refused(rich, 5, "rule(5, 1)", Check.BEYOND, x -> x.rule(5, 1));
        refused(rich, 32, "friday(21)", Check.BEYOND, x -> x.friday(21));
        refused(rich, 32, "friday(0)", Check.BEYOND, x -> x.friday(0));
        refused(rich, 34, "feed(65, 5)", Check.BEYOND, x -> x.feed(65, 5));
        refused(rich, 34, "feed(65, 0)", Check.BEYOND, x -> x.feed(65, 0));
    }

    private static void noSuchValue() {
        Supplier<ChainedChest> rich = FindingsTest::rich;
        int[] most = {6, 60, 9, 40, 3, 2, 4, 9, 15, 15};
        for (int i = 0; i < most.length; i++) {
            int what = i;
            for (int v : new int[] {MIN, what == 1 ? 0 : -1, most[what] + 1, 1024, MAX}) {
                refused(rich, 4, "change(2, " + what + ", " + v + ")", Check.BEYOND, x -> x.change(2, what, v));
            }
        }
        int[] mostRule = {15, 40, 15, 60, 60};
        for (int i = 0; i < mostRule.length; i++) {
            int what = i;
            for (int v : new int[] {MIN, -1, mostRule[what] + 1, 1024, MAX}) {
                refused(rich, 5, "rule(" + what + ", " + v + ")", Check.BEYOND, x -> x.rule(what, v));
            }
        }
    }

    private static void noWayOut() {
        Supplier<ChainedChest> noWay = FindingsTest::noWay;
        refused(noWay, 12, "soonest()", Check.NONE, ChainedChest::soonest);
        refused(noWay, 13, "ith(0)", Check.NONE, x -> x.ith(0));
        refused(noWay, 14, "quietest()", Check.NONE, ChainedChest::quietest);
        refused(noWay, 15, "fewest()", Check.NONE, ChainedChest::fewest);
        refused(noWay, 16, "ahead(0)", Check.NONE, x -> x.ahead(0));
        refused(noWay, 16, "ahead(1)", Check.NONE, x -> x.ahead(1));
        refused(noWay, 20, "tools()", Check.NONE, ChainedChest::tools);
        refused(noWay, 21, "spare()", Check.NONE, ChainedChest::spare);
        refused(noWay, 23, "kindFor(3)", Check.NONE, x -> x.kindFor(3));
        refused(noWay, 24, "link()", Check.NONE, ChainedChest::link);
        refused(noWay, 25, "linked()", Check.NONE, ChainedChest::linked);
        refused(noWay, 27, "surest(0)", Check.NONE, x -> x.surest(0));
        refused(noWay, 27, "surest(1)", Check.NONE, x -> x.surest(1));
        Supplier<ChainedChest> two = () -> {
            ChainedChest x = noWay();
            x.change(2, 8, 4);
            x.rule(2, 12);
            return x;
        };
        refused(two, 22, "wire()", Check.NONE, ChainedChest::wire);
        refused(two, 26, "spared()", Check.NONE, ChainedChest::spared);
        refused(FindingsTest::rich, 13, "ith(1)", Check.NONE, x -> x.ith(1));
        refused(FindingsTest::torn, 45, "undo()", Check.NONE, ChainedChest::undo);
    }

    private static ChainedChest torn() {
        ChainedChest x = rich();
        x.tear();
        return x;
    }

    private static void barred() {
        Supplier<ChainedChest> barred = () -> {
            ChainedChest x = noWay();
            x.change(2, 3, 7);
            return x;
        };
        refused(barred, 10, "off(0): OFF", Check.STATE, x -> x.off(0));
        refused(barred, 10, "off(2): SLACK", Check.STATE, x -> x.off(2));
        refused(barred, 10, "off(3): AFTER", Check.STATE, x -> x.off(3));
    }

    private static void full() {
        Supplier<ChainedChest> full = FindingsTest::fullOne;
        refused(full, 2, "lock(0)", Check.FULL, x -> x.lock(0));
        refused(full, 2, "lock(7)", Check.BEYOND, x -> x.lock(7));
        refused(full, 34, "feed(65, 1)", Check.FULL, x -> x.feed(65, 1));
        refused(full, 34, "feed(65, 5)", Check.BEYOND, x -> x.feed(65, 5));
        refused(FindingsTest::nearlyFull, 34, "feed(65, 4)", Check.FULL, x -> x.feed(65, 4));
    }

    private static ChainedChest nearlyFull() {
        ChainedChest x = rich();
        Check.feed(x, " ".repeat(110));
        return x;
    }

    private static void spots() {
        Supplier<ChainedChest> rich = FindingsTest::rich;
        for (int v : new int[] {MIN, -1, 10, MAX}) {
            refused(rich, 37, "hold(" + v + ", 0)", Check.BEYOND, x -> x.hold(v, 0));
            refused(rich, 37, "hold(" + v + ", -1)", Check.BEYOND, x -> x.hold(v, -1));
            refused(rich, 38, "as(" + v + ", 0)", Check.BEYOND, x -> x.as(v, 0));
            refused(rich, 38, "as(0, " + v + ")", Check.BEYOND, x -> x.as(0, v));
        }
        refused(rich, 38, "as(0, 7)", Check.BEYOND, x -> x.as(0, 7));
        refused(rich, 38, "as(1, 0)", Check.MISSING, x -> x.as(1, 0));
        refused(rich, 38, "as(0, 1)", Check.KIND, x -> x.as(0, 1));
    }

    private static void noSheet() {
        Supplier<ChainedChest> rich = FindingsTest::rich;
        for (int s : new int[] {MIN, -1, 2, 3, 4, MAX}) {
            int due = s == 2 || s == 3 ? Check.MISSING : Check.BEYOND;
            refused(rich, 28, "fits(" + s + ")", due, x -> x.fits(s));
            refused(rich, 29, "maybe(" + s + ")", due, x -> x.maybe(s));
            refused(rich, 30, "surely(" + s + ")", due, x -> x.surely(s));
            refused(rich, 40, "write(" + s + ", 0, 9)", due, x -> x.write(s, 0, 9));
            refused(rich, 41, "copy(" + s + ", 0, 0, 0, 1)", due, x -> x.copy(s, 0, 0, 0, 1));
            refused(rich, 41, "copy(0, 0, " + s + ", 0, 1)", due, x -> x.copy(0, 0, s, 0, 1));
            refused(rich, 42, "load(" + s + ")", due, x -> x.load(s));
            refused(rich, 43, "judge(" + s + ")", due, x -> x.judge(s));
            if (due == Check.BEYOND) {
                refused(rich, 39, "sheet(" + s + ", 8, 1)", due, x -> x.sheet(s, 8, 1));
            }
        }
    }

    private static void sheets() {
        Supplier<ChainedChest> rich = FindingsTest::rich;
        refused(rich, 29, "maybe(0)", Check.NONE, x -> x.maybe(0));
        refused(rich, 30, "surely(0)", Check.NONE, x -> x.surely(0));
        refused(rich, 39, "sheet(0, 7, 1)", Check.BEYOND, x -> x.sheet(0, 7, 1));
        for (int n : new int[] {MIN, -1, 41, MAX}) {
            int due = n < 0 ? Check.SIZE : Check.BEYOND;
            refused(rich, 39, "sheet(0, 8, " + n + ")", due, x -> x.sheet(0, 8, n));
            refused(rich, 39, "sheet(0, 0, " + n + ")", due, x -> x.sheet(0, 0, n));
        }
        for (int v : new int[] {MIN, -1, 3, 40, MAX}) {
            refused(rich, 40, "write(0, " + v + ", 9)", Check.BEYOND, x -> x.write(0, v, 9));
            refused(rich, 41, "copy(0, " + v + ", 0, 0, 1)", Check.BEYOND, x -> x.copy(0, v, 0, 0, 1));
            refused(rich, 41, "copy(0, 0, 0, " + v + ", 1)", Check.BEYOND, x -> x.copy(0, 0, 0, v, 1));
            refused(rich, 41, "copy(0, 1, 0, 0, " + v + ")", Check.BEYOND, x -> x.copy(0, 1, 0, 0, v));
        }
        refused(rich, 41, "copy(0, 0, 1, 0, 1)", Check.KIND, x -> x.copy(0, 0, 1, 0, 1));
    }
}
