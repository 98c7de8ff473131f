/** Promises 12 to 19, sentence by sentence: WAYS OUT. */
final class WaysEdgesTest {
    private WaysEdgesTest() {
    }

    static void run() {
        soonest();
        firstSuch();
        ithBeyond();
        quietest();
        fewest();
        ahead();
        aheadByTheRow();
        ever();
        states();
        rows();
        nothingChanges();
    }

    private static void soonest() {
        Check.sentence(12, "The least that a WAY OUT TAKES together (0: he is OUT).");
        Check.edge("no LOCKS", new ChainedChest().soonest(), 0);
        ChainedChest x = Check.tenLocks();
        Check.edge("no GOAL", x.soonest(), 0);
        x.rule(2, 512);
        Check.edge("one", x.soonest(), 10);
        x.rule(2, 1023);
        Check.edge("ten", x.soonest(), 100);
        x.off(4);
        Check.edge("from as it is now", x.soonest(), 90);
        for (int l = 0; l < 10; l++) {
            x.on(l);
            x.change(l, 0, 6);
            x.change(l, 1, 60);
            x.change(l, 5, 0);
            x.change(l, 4, 3);
        }
        Check.edge("ten BOLTS, each BINDS both HANDS till it is OFF", x.soonest(), 1200);
        for (int l = 0; l < 10; l++) {
            x.change(l, 0, 3);
            x.change(l, 1, 1);
        }
        // half of 1, 4, 7, 10, 13, 16, 19, 22, 25, 28, cut, 1 at least
        Check.edge("ten OLD ones of 1", x.soonest(), 1 + 2 + 3 + 5 + 6 + 8 + 9 + 11 + 12 + 14);
        ChainedChest y = Check.with(1, 0);
        y.rule(2, 1);
        y.change(0, 1, 60);
        y.change(1, 2, 9);
        y.change(1, 1, 9);
        Check.edge("with the other as soon as without", y.soonest(), 60);
        y.change(1, 1, 8);
        Check.edge("by the other, though it is not of GOAL", y.soonest(), 59);
        Check.sentence(12, "NONE.");
        y.change(0, 8, 1);
        Check.edge("none", y.soonest(), Check.NONE);
        y.rule(2, 0);
        Check.edge("but OUT", y.soonest(), 0);
    }

    private static void firstSuch() {
        Check.sentence(13, "The i-th LOCK of the first such (by rows of LOCKS, the least first).");
        ChainedChest x = Check.tenLocks();
        x.rule(2, 1023);
        for (int i = 0; i < 10; i++) {
            Check.edge("all orders are as soon", x.ith(i), i);
        }
        x.change(0, 8, 512);
        x.change(1, 8, 1);
        int[] want = {2, 3, 4, 5, 6, 7, 8, 9, 0, 1};
        for (int i = 0; i < 10; i++) {
            Check.edge("0 behind 9, 1 behind 0", x.ith(i), want[i]);
        }
        // The ROPE 1 takes 20, or 11 behind LOCK 0 of 9: the row 0 1 is ahead of the row 1, though longer.
        ChainedChest y = Check.with(0, 1);
        y.rule(2, 2);
        y.change(0, 1, 9);
        y.change(0, 2, 9);
        y.change(1, 1, 20);
        Check.edge("as soon as the one of one STEP", y.soonest(), 20);
        Check.edge("the least row, not the shortest", y.ith(0), 0);
        Check.edge("its second", y.ith(1), 1);
        ChainedChest z = Check.with(1, 0);
        z.rule(2, 1);
        z.change(1, 1, 9);
        z.change(1, 2, 9);
        z.change(0, 1, 20);
        Check.edge("the least row has one STEP here", z.ith(0), 0);
        Check.edge("no second", z.ith(1), Check.NONE);
    }

    private static void ithBeyond() {
        Check.sentence(13, "BEYOND: i 0 to 9.");
        ChainedChest x = Check.tenLocks();
        x.rule(2, 1023);
        for (int i : new int[] {Integer.MIN_VALUE, -1, 10, 11, 1024, Integer.MAX_VALUE}) {
            Check.edge("i " + i, x.ith(i), Check.BEYOND);
        }
        Check.edge("i 0", x.ith(0), 0);
        Check.edge("i 9", x.ith(9), 9);
        Check.sentence(13, "NONE: there is none, or it has not so many.");
        x.off(9);
        Check.edge("the ninth", x.ith(8), 8);
        Check.edge("it has nine", x.ith(9), Check.NONE);
        x.change(8, 3, 1);
        Check.edge("there is none", x.ith(0), Check.NONE);
        x.rule(2, 0);
        Check.edge("OUT: it has none", x.ith(0), Check.NONE);
        Check.edge("no LOCKS", new ChainedChest().ith(0), Check.NONE);
    }

    private static void quietest() {
        Check.sentence(14, "The least that a WAY OUT SOUNDS together, whether THE BAND plays or not.");
        ChainedChest x = Check.with(0, 1, 4);
        Check.edge("OUT", x.quietest(), 0);
        x.rule(2, 2);
        Check.edge("a ROPE", x.quietest(), 0);
        x.rule(2, 7);
        x.change(2, 1, 60);
        Check.edge("2, 0 and 62", x.quietest(), 64);
        x.rule(3, 60);
        x.rule(4, 0);
        Check.edge("it always plays", x.quietest(), 64);
        x.rule(3, 0);
        Check.edge("it never plays", x.quietest(), 64);
        x.rule(2, 2);
        x.change(1, 3, 9);
        x.change(0, 2, 9);
        x.change(0, 1, 60);
        x.change(2, 2, 9);
        x.change(2, 1, 4);
        Check.edge("the quiet way, though the other is sooner", x.quietest(), 2);
        x.change(2, 0, 2);
        x.change(2, 1, 1);
        Check.edge("a CHAIN of 1 is silent", x.quietest(), 0);
        Check.sentence(14, "NONE.");
        x.change(1, 3, 19);
        Check.edge("none", x.quietest(), Check.NONE);
        x.change(1, 3, 18);
        Check.edge("by both", x.quietest(), 2);
    }

    private static void fewest() {
        Check.sentence(15, "The fewest STEPS of a WAY OUT.");
        ChainedChest x = Check.tenLocks();
        Check.edge("OUT", x.fewest(), 0);
        for (int l = 1; l < 10; l++) {
            x.change(l, 8, 1 << l - 1);
        }
        x.rule(2, 512);
        Check.edge("all ten", x.fewest(), 10);
        x.change(5, 8, 0);
        Check.edge("5 to 9", x.fewest(), 5);
        x.change(9, 8, 0);
        Check.edge("9 alone", x.fewest(), 1);
        Check.sentence(15, "NONE.");
        x.change(9, 8, 512);
        Check.edge("none", x.fewest(), Check.NONE);
    }

    private static void ahead() {
        Check.sentence(16, "what 0 that, 1 HEARD in it.");
        ChainedChest x = Check.with(0, 0);
        x.rule(3, 0);
        x.off(0);
        Check.edge("OUT: CLOCK as it is", x.ahead(0), 10);
        Check.edge("OUT: nothing is HEARD", x.ahead(1), 0);
        x.rule(2, 2);
        Check.edge("CLOCK at its end", x.ahead(0), 20);
        Check.edge("in it, not till now", x.ahead(1), 2);
        Check.sentence(16, "BEYOND.");
        for (int what : new int[] {Integer.MIN_VALUE, -1, 2, 3, Integer.MAX_VALUE}) {
            Check.edge("what " + what, x.ahead(what), Check.BEYOND);
        }
        Check.sentence(16, "NONE.");
        x.change(1, 3, 1);
        Check.edge("of CLOCK", x.ahead(0), Check.NONE);
        Check.edge("of HEARD", x.ahead(1), Check.NONE);
        x.rule(2, 0);
        Check.edge("OUT is none of it", x.ahead(1), 0);
    }

    /** Each STEP TAKES what it does at its place in the row: the LOCKS of the row ahead of it are OFF by then. */
    private static void aheadByTheRow() {
        Check.sentence(16, "The CLOCK at its end, if he goes by the row of ith() (0 to 9: all of it)");
        ChainedChest x = Check.tenLocks();
        x.rule(2, 1023);
        Check.edge("all of ten", x.ahead(0), 100);
        // By the band of 5 and 5 each of the ten begins as it plays.
        Check.edge("HEARD of ten", x.ahead(1), 0);
        x.rule(3, 0);
        Check.edge("HEARD of ten, no MARCH", x.ahead(1), 20);
        // Each CHAIN is AFTER those ahead of it: 10, 13, 16, 19 and 22 minutes
        ChainedChest y = Check.with(2, 2, 2, 2, 2);
        y.rule(2, 31);
        for (int l = 0; l < 5; l++) {
            y.change(l, 8, (1 << l) - 1);
        }
        Check.edge("CLOCK", y.ahead(0), 80);
        int[] begins = {0, 10, 23, 39, 58};
        // Still for one minute alone, as that STEP begins
        int[] heard = {25, 5, 5, 5, 5};
        for (int i = 0; i < begins.length; i++) {
            y.rule(3, begins[i]);
            y.rule(4, 1);
            Check.edge("still at " + begins[i], y.ahead(1), heard[i]);
        }
        y.rule(3, 1);
        y.rule(4, 57);
        Check.edge("plays at 0 and at 58", y.ahead(1), 15);
    }

    private static void ever() {
        Check.sentence(17, "LOCKS that can come off by any row of STEPS from now on, as a set.");
        Check.edge("of none", new ChainedChest().ever(), 0);
        ChainedChest x = Check.tenLocks();
        Check.edge("all ten, though he is OUT", x.ever(), 1023);
        for (int l = 1; l < 10; l++) {
            x.change(l, 8, 1 << l - 1);
        }
        Check.edge("all in one row", x.ever(), 1023);
        x.change(9, 9, 256);
        Check.edge("9 behind 8, but while it is ON", x.ever(), 511);
        x.off(0);
        Check.edge("not what is OFF already", x.ever(), 510);
        x.change(0, 2, 1);
        x.change(4, 3, 2);
        Check.edge("4 wants more than there is", x.ever(), 2 + 4 + 8);
        x.change(1, 3, 2);
        Check.edge("none any more", x.ever(), 0);
    }

    private static void states() {
        Check.sentence(18, "How many states (sets of OFF) can be come to, this one, too.");
        Check.edge("no LOCKS: this one", new ChainedChest().states(), 1);
        ChainedChest x = Check.tenLocks();
        Check.edge("all sets", x.states(), 1024);
        for (int l = 0; l < 10; l++) {
            x.off(l);
            Check.edge("half as many", x.states(), 512 >> l);
        }
        ChainedChest y = Check.with(0, 0, 0);
        y.rule(2, 1);
        Check.edge("behind OUT, too", y.states(), 8);
        for (int l = 0; l < 3; l++) {
            y.change(l, 3, 1);
        }
        Check.edge("none MAY: this one", y.states(), 1);
    }

    private static void rows() {
        Check.sentence(19, "How many rows of STEPS there are that are WAYS OUT, not OUT ahead of their end (1, the one without STEPS, if he is OUT now).");
        Check.edge("no LOCKS", new ChainedChest().rows(), 1);
        ChainedChest x = Check.tenLocks();
        Check.edge("OUT now", x.rows(), 1);
        x.rule(2, 1023);
        Check.edge("ten in all orders", x.rows(), 3628800);
        x.rule(2, 512);
        // 9 at the end of any row of some of the nine others: the sum of 9!/k! for k from 0 to 9
        Check.edge("ends as he is OUT", x.rows(), 986410);
        x.off(9);
        Check.edge("OUT by a STEP", x.rows(), 1);
        ChainedChest y = Check.with(0, 0);
        y.rule(2, 1);
        Check.edge("0, and 1 0", y.rows(), 2);
        y.change(0, 3, 1);
        Check.edge("none", y.rows(), 0);
    }

    private static void nothingChanges() {
        Check.sentence(0, "ways out (nothing changes).");
        ChainedChest x = Check.with(1, 4, 6, 5);
        Check.read(x, "tools 5;spare 3;goal 9");
        x.off(2);
        String before = Dump.of(x);
        x.soonest();
        x.ith(0);
        x.quietest();
        x.fewest();
        x.ahead(1);
        x.ever();
        x.states();
        x.rows();
        x.tools();
        x.spare();
        x.wire();
        x.kindFor(3);
        x.link();
        x.linked();
        x.spared();
        x.surest(0);
        x.hear(2);
        Check.edge("all is as it was", Dump.of(x).equals(before) ? 1 : 0, 1);
    }
}
