/** Promises 1 to 11, sentence by sentence: LOCKS, the man, STEPS. */
final class LocksEdgesTest {
    private static final int[] WILD = {Integer.MIN_VALUE, -1000001, -2, -1, 10, 11, 32, 1 << 20, Integer.MAX_VALUE};

    private LocksEdgesTest() {
    }

    static void run() {
        newObject();
        lock();
        of();
        change();
        rule();
        on();
        shut();
        may();
        why();
        whyFirst();
        off();
        clockFull();
        now();
    }

    private static void newObject() {
        Check.sentence(1, "All as at first; no LOCKS; THE TAPE is empty, no image is kept.");
        ChainedChest used = Check.with(0, 1);
        used.rule(3, 9);
        used.image();
        used.seed(9);
        used.sheet(2, 8, 4);
        used.hold(3, 1);
        Check.feed(used, "lock");
        ChainedChest x = new ChainedChest();
        int[] first = {0, 0, 0, 0, 3, 1, 1};
        for (int what = 0; what < 7; what++) {
            Check.edge("now(" + what + ")", x.now(what), first[what]);
        }
        int[] counts = {0, 0, 0, 0, 0, 0, 1, 0};
        for (int what = 0; what < 8; what++) {
            Check.edge("count(" + what + ")", x.count(what), counts[what]);
        }
        int[] rules = {0, 0, 0, 5, 5};
        for (int what = 0; what < 5; what++) {
            Check.edge("rule(" + what + ")", x.rule(what, 0), rules[what]);
        }
        Check.edge("no findings", x.status(-1), 0);
        Check.edge("no image is kept", x.undo(), Check.NONE);
        Check.edge("nor torn", x.tear(), 0);
        for (int spot = 0; spot < 10; spot++) {
            Check.edge("SPOT " + spot, x.as(spot, 0), Check.MISSING);
        }
        for (int s = 0; s < 4; s++) {
            Check.edge("SHEET " + s, x.judge(s), Check.MISSING);
        }
        Check.edge("the other one stays as it is", used.count(1), 2);
    }

    private static void lock() {
        Check.sentence(2, "A new LOCK: its number.");
        ChainedChest x = new ChainedChest();
        for (int l = 0; l < 10; l++) {
            Check.edge("its number", x.lock(6 - l % 7), l);
            Check.edge("as many are there", x.count(1), l + 1);
        }
        Check.sentence(2, "BEYOND.");
        for (int kind : WILD) {
            Check.edge("kind " + kind, new ChainedChest().lock(kind), Check.BEYOND);
        }
        Check.edge("kind 7", new ChainedChest().lock(7), Check.BEYOND);
        Check.edge("kind 0", new ChainedChest().lock(0), 0);
        Check.edge("kind 6", new ChainedChest().lock(6), 0);
        Check.sentence(2, "FULL.");
        Check.edge("an 11th", x.lock(0), Check.FULL);
        Check.edge("ten are there", x.count(1), 10);
    }

    private static void of() {
        Check.sentence(3, "Of a LOCK: what 0 KIND, 1 TIME, 2 GIVES, 3 WANTS, 4 BINDS, 5 HANDS, 6 TOOL, 7 WEAK, 8 AFTER, 9 WITH, "
            + "10 1 if it is ON, 11 what it TAKES now, 12 what it SOUNDS.");
        ChainedChest x = Check.with(2, 0);
        int[] is = {3, 7, 4, 0, 2, 1, 0, 5, 0, 2, 1, 3, 4};
        for (int what = 0; what < 10; what++) {
            x.change(0, what, is[what]);
        }
        for (int what = 0; what < 13; what++) {
            Check.edge("what " + what, x.of(0, what), is[what]);
        }
        x.off(1);
        Check.edge("TAKES now", x.of(0, 11), 5);
        x.change(0, 9, 0);
        x.off(0);
        Check.edge("0 if it is OFF", x.of(0, 10), 0);
        Check.edge("TAKES with two OFF", x.of(0, 11), 6);
        Check.sentence(3, "BEYOND.");
        for (int wild : WILD) {
            Check.edge("lock " + wild, x.of(wild, 0), Check.BEYOND);
        }
        for (int what : new int[] {Integer.MIN_VALUE, -1, 13, 14, 100, Integer.MAX_VALUE}) {
            Check.edge("what " + what, x.of(0, what), Check.BEYOND);
        }
        Check.edge("lock 2 of two", x.of(2, 12), Check.BEYOND);
        Check.edge("lock 1 of two", x.of(1, 12), 2);
    }

    private static void change() {
        Check.sentence(4, "(9: sets of LOCKS that there are) of a LOCK becomes v: what it was.");
        ChainedChest x = Check.with(0, 0, 0);
        for (int what = 8; what < 10; what++) {
            Check.edge("none", x.change(2, what, 0), 0);
            Check.edge("all, itself too", x.change(2, what, 7), 0);
            Check.edge("what it was", x.change(2, what, 4), 7);
            Check.edge("one more than there are", x.change(2, what, 8), Check.BEYOND);
            Check.edge("-1", x.change(2, what, -1), Check.BEYOND);
            Check.edge("it stays", x.of(2, what), 4);
        }
        Check.edge("KIND, too", x.change(2, 0, 6), 0);
        Check.edge("KIND 7", x.change(2, 0, 7), Check.BEYOND);
        Check.edge("KIND -1", x.change(2, 0, -1), Check.BEYOND);
        Check.edge("KIND stays", x.change(2, 0, 0), 6);
        Check.sentence(4, "BEYOND.");
        for (int wild : WILD) {
            Check.edge("lock " + wild, x.change(wild, 1, 1), Check.BEYOND);
            Check.edge("what " + wild, x.change(0, wild, 1), Check.BEYOND);
        }
        Check.edge("lock 3 of three", x.change(3, 1, 1), Check.BEYOND);
        for (int what = 0; what < 10; what++) {
            Check.edge("what " + what + " all too few", x.change(0, what, Integer.MIN_VALUE), Check.BEYOND);
            Check.edge("what " + what + " all too many", x.change(0, what, Integer.MAX_VALUE), Check.BEYOND);
        }
        x.off(0);
        Check.edge("one that is OFF may be changed", x.change(0, 2, 5), 0);
        Check.edge("what it GIVES now", x.now(3), 5);
    }

    private static void rule() {
        Check.sentence(5, "TOOLS (what 0), SPARE (1), GOAL (2: of LOCKS that there are), MARCH (3), STILL (4) becomes v: what it was.");
        ChainedChest x = Check.with(0, 0, 0);
        Check.edge("all of three", x.rule(2, 7), 0);
        Check.edge("a fourth", x.rule(2, 8), Check.BEYOND);
        Check.edge("all and a fourth", x.rule(2, 15), Check.BEYOND);
        Check.edge("none", x.rule(2, 0), 7);
        x.lock(0);
        Check.edge("a fourth now", x.rule(2, 8), 0);
        Check.edge("what it was", x.rule(2, 1), 8);
        Check.sentence(5, "BEYOND.");
        for (int wild : WILD) {
            Check.edge("what " + wild, x.rule(wild, 0), Check.BEYOND);
        }
        for (int what = 5; what < 10; what++) {
            Check.edge("what " + what, x.rule(what, 0), Check.BEYOND);
        }
        for (int what = 0; what < 5; what++) {
            Check.edge("all too few of " + what, x.rule(what, Integer.MIN_VALUE), Check.BEYOND);
            Check.edge("all too many of " + what, x.rule(what, Integer.MAX_VALUE), Check.BEYOND);
        }
    }

    private static void on() {
        Check.sentence(6, "A LOCK is put ON again: 1, 0 if it was.");
        ChainedChest x = Check.tenLocks();
        for (int l = 0; l < 10; l++) {
            x.off(l);
        }
        for (int l = 9; l >= 0; l--) {
            Check.edge("put ON again", x.on(l), 1);
            Check.edge("it alone", x.now(2), (1 << l) - 1);
            Check.edge("it was", x.on(l), 0);
        }
        Check.edge("CLOCK stays", x.now(0), 100);
        Check.sentence(6, "BEYOND.");
        for (int wild : WILD) {
            Check.edge("lock " + wild, x.on(wild), Check.BEYOND);
        }
        Check.edge("of none", new ChainedChest().on(0), Check.BEYOND);
    }

    private static void shut() {
        Check.sentence(7, "All are ON, CLOCK and HEARD 0: how many were OFF.");
        Check.edge("no LOCKS", new ChainedChest().shut(), 0);
        ChainedChest x = Check.tenLocks();
        x.rule(3, 0);
        for (int l = 0; l < 10; l++) {
            x.off(l);
        }
        Check.edge("HEARD till then", x.now(1), 20);
        Check.edge("all ten", x.shut(), 10);
        Check.edge("all are ON", x.now(2), 0);
        Check.edge("CLOCK", x.now(0), 0);
        Check.edge("HEARD", x.now(1), 0);
        x.off(9);
        x.on(9);
        Check.edge("CLOCK though all are ON", x.now(0), 10);
        Check.edge("none was OFF", x.shut(), 0);
        Check.edge("CLOCK all the same", x.now(0), 0);
        Check.edge("HEARD all the same", x.now(1), 0);
    }

    private static void may() {
        Check.sentence(8, "LOCKS that MAY come off, as a set.");
        Check.edge("of none", new ChainedChest().may(), 0);
        ChainedChest x = Check.tenLocks();
        Check.edge("all ten", x.may(), 1023);
        for (int l = 0; l < 10; l++) {
            x.off(l);
            Check.edge("one less", x.may(), 1023 & -2 << l);
        }
        x.on(9);
        Check.edge("ON again", x.may(), 512);
        x.change(9, 3, 1);
        Check.edge("one that may not", x.may(), 0);
    }

    private static void why() {
        Check.sentence(9, "0: it MAY.");
        ChainedChest x = Check.tenLocks();
        for (int l = 0; l < 10; l++) {
            Check.edge("it MAY", x.why(l), 0);
        }
        Check.sentence(9, "BEYOND.");
        for (int wild : WILD) {
            Check.edge("lock " + wild, x.why(wild), Check.BEYOND);
        }
        Check.edge("lock 0 of none", new ChainedChest().why(0), Check.BEYOND);
    }

    /** Of a LOCK for which all six hold, the first is taken away, and so on. */
    private static void whyFirst() {
        Check.sentence(9, "Why a LOCK may not, the first of: 1 it is OFF, 2 SLACK, 3 HANDS, 4 TOOL, 5 AFTER, 6 WITH");
        ChainedChest x = Check.with(0, 0, 0, 0);
        x.off(0);
        x.off(1);
        x.change(0, 3, 1);
        x.change(0, 5, 2);
        x.change(3, 4, 2);
        x.change(0, 6, 2);
        x.change(0, 8, 4);
        x.change(0, 9, 2);
        Check.edge("1 ahead of all", x.why(0), 1);
        Check.edge("a STEP, likewise", x.off(0), Check.STATE);
        x.on(0);
        Check.edge("2 ahead of the rest", x.why(0), 2);
        x.rule(1, 1);
        Check.edge("3 ahead of the rest", x.why(0), 3);
        x.change(3, 4, 0);
        Check.edge("4 ahead of the rest", x.why(0), 4);
        x.rule(0, 2);
        Check.edge("5 ahead of 6", x.why(0), 5);
        x.off(2);
        Check.edge("6", x.why(0), 6);
        Check.edge("no STEP", x.off(0), Check.STATE);
        x.on(1);
        Check.edge("0", x.why(0), 0);
        Check.edge("a STEP", x.off(0), 10);
    }

    private static void off() {
        Check.sentence(10, "A STEP: what it TAKES.");
        ChainedChest x = Check.tenLocks();
        x.change(0, 1, 1);
        x.change(9, 1, 60);
        Check.edge("the least", x.off(0), 1);
        Check.edge("the most of a LOCK", x.off(9), 60);
        Check.edge("CLOCK", x.now(0), 61);
        Check.edge("OFF", x.now(2), 513);
        Check.sentence(10, "BEYOND.");
        for (int wild : WILD) {
            Check.edge("lock " + wild, x.off(wild), Check.BEYOND);
        }
        Check.edge("of none", new ChainedChest().off(0), Check.BEYOND);
        Check.sentence(10, "STATE: it MAY not, or CLOCK would be above 99999.");
        Check.edge("it is OFF", x.off(0), Check.STATE);
        x.change(1, 3, 1);
        Check.edge("SLACK", x.off(1), Check.STATE);
        x.change(2, 4, 1);
        x.change(3, 5, 2);
        Check.edge("HANDS", x.off(3), Check.STATE);
        x.change(4, 6, 4);
        Check.edge("TOOL", x.off(4), Check.STATE);
        x.change(5, 8, 3);
        Check.edge("AFTER", x.off(5), Check.STATE);
        x.change(6, 9, 1);
        Check.edge("WITH", x.off(6), Check.STATE);
        Check.edge("CLOCK stays", x.now(0), 61);
        Check.edge("each told", x.status(4), 6);
    }

    /** No row of 512 calls comes so far: what is asked here is free, but ours. */
    private static void clockFull() {
        Check.sentence(10, "STATE: it MAY not, or CLOCK would be above 99999.");
        // A BOLT with no HANDS FREE takes 120: 833 of them are 99960.
        ChainedChest x = Check.with(6, 0);
        x.change(0, 1, 60);
        x.change(0, 4, 3);
        for (int l = 0; l < 2; l++) {
            x.change(l, 5, 0);
        }
        for (int i = 0; i < 833; i++) {
            x.off(0);
            x.on(0);
        }
        x.rule(2, 2);
        x.change(1, 1, 40);
        Check.edge("100000", x.off(1), Check.STATE);
        Check.edge("CLOCK stays", x.now(0), 99960);
        Check.edge("it stays ON", x.now(2), 0);
        Check.sentence(16, "STATE: CLOCK would be above 99999.");
        Check.edge("100000", x.ahead(0), Check.STATE);
        Check.edge("HEARD, too", x.ahead(1), Check.STATE);
        Check.edge("each is told", x.status(4), 3);
        Check.edge("soonest() doesn't ask CLOCK", x.soonest(), 40);
        x.change(1, 1, 39);
        Check.edge("99999", x.ahead(0), 99999);
        Check.edge("HEARD to 99999", x.ahead(1), x.now(6) == 1 ? 0 : 2);
        Check.sentence(0, "CLOCK: minutes (0 at first; 99999 at most).");
        Check.edge("a STEP to 99999", x.off(1), 39);
        Check.edge("99999", x.now(0), 99999);
        Check.edge("no STEP more", x.off(0), Check.STATE);
        Check.edge("OUT: CLOCK as it is", x.ahead(0), 99999);
        Check.edge("a Friday begins anew", x.friday(1), 1);
        Check.edge("CLOCK of it", x.now(0) < 121 ? 1 : 0, 1);
    }

    private static void now() {
        Check.sentence(11, "What 0 CLOCK, 1 HEARD, 2 LOCKS that are OFF, as a set, 3 SLACK, 4 HANDS that are FREE, as a set,");
        ChainedChest ten = Check.tenLocks();
        ten.rule(1, 40);
        ten.rule(3, 0);
        for (int l = 0; l < 10; l++) {
            ten.change(l, 2, 9);
            ten.off(l);
        }
        int[] most = {100, 20, 1023, 130, 3};
        int[] least = {0, 0, 0, 0, 0};
        ChainedChest bound = Check.with(0);
        bound.change(0, 4, 3);
        for (int what = 0; what < 5; what++) {
            Check.edge("now(" + what + "), all are OFF", ten.now(what), most[what]);
            Check.edge("now(" + what + "), all are ON", bound.now(what), least[what]);
        }
        Check.sentence(11, "5 1 if OUT, else 0, 6 1 if THE BAND plays, else 0.");
        ChainedChest x = Check.with(0);
        x.rule(2, 1);
        Check.edge("not OUT", x.now(5), 0);
        Check.edge("it plays", x.now(6), 1);
        x.change(0, 1, 5);
        x.off(0);
        Check.edge("OUT", x.now(5), 1);
        Check.edge("it is still", x.now(6), 0);
        Check.edge("CLOCK", x.now(0), 5);
        Check.sentence(11, "BEYOND.");
        for (int what : new int[] {Integer.MIN_VALUE, -1, 7, 8, 100, Integer.MAX_VALUE}) {
            Check.edge("what " + what, x.now(what), Check.BEYOND);
        }
    }
}
