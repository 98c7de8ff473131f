/** Promises 20 to 27, sentence by sentence: what he needs, what smiths should do. */
final class SmithsEdgesTest {
    private SmithsEdgesTest() {
    }

    static void run() {
        tools();
        spare();
        wire();
        kindFor();
        link();
        linkOfNone();
        linked();
        spared();
        surest();
        surestBounds();
    }

    private static void tools() {
        Check.sentence(20, "The set of fewest TOOLS with which there is a WAY OUT; of several the least.");
        Check.edge("no LOCKS", new ChainedChest().tools(), 0);
        // LOCK 0 wants what TOOL t gives by LOCK t
        ChainedChest x = Check.with(0, 0, 0, 0, 0);
        x.rule(0, 15);
        Check.edge("OUT: none, though he has all", x.tools(), 0);
        x.rule(2, 1);
        for (int t = 1; t <= 4; t++) {
            x.change(t, 6, t);
            x.change(t, 2, 5);
        }
        Check.edge("none", x.tools(), 0);
        x.change(0, 3, 5);
        Check.edge("any one: the least", x.tools(), 1);
        x.change(0, 3, 10);
        Check.edge("any two: 1 and 2", x.tools(), 3);
        x.change(0, 3, 15);
        Check.edge("any three: 1, 2 and 3", x.tools(), 7);
        x.change(0, 3, 20);
        Check.edge("all four", x.tools(), 15);
        x.change(4, 2, 9);
        x.change(3, 2, 9);
        x.change(0, 3, 18);
        Check.edge("3 and 4, not 1, 2 and 3", x.tools(), 12);
        x.change(1, 2, 9);
        x.change(0, 3, 17);
        Check.edge("1 and 3 as well", x.tools(), 5);
        Check.sentence(20, "NONE.");
        x.change(0, 3, 33);
        Check.edge("not with all", x.tools(), Check.NONE);
        x.change(0, 3, 32);
        Check.edge("with all", x.tools(), 15);
        Check.edge("he has what he had", x.rule(0, 0), 15);
    }

    private static void spare() {
        Check.sentence(21, "The least SPARE (0 to 40) with which there is one.");
        ChainedChest x = Check.with(0);
        x.rule(1, 40);
        Check.edge("OUT: 0, though he has 40", x.spare(), 0);
        x.rule(2, 1);
        for (int wants = 0; wants <= 40; wants++) {
            x.change(0, 3, wants);
            Check.edge("it WANTS " + wants, x.spare(), wants);
        }
        Check.edge("he has what he had", x.rule(1, 0), 40);
        Check.edge("though he has none", x.spare(), 40);
        Check.sentence(21, "NONE.");
        x.change(0, 6, 1);
        Check.edge("not with 40", x.spare(), Check.NONE);
        Check.edge("he has what he had", x.rule(1, 0), 0);
    }

    private static void wire() {
        Check.sentence(22, "The LOCK that, being OFF now, makes soonest() least.");
        ChainedChest x = Check.tenLocks();
        Check.edge("OUT: the least", x.wire(), 0);
        x.rule(2, 1023);
        Check.edge("of ten alike the least", x.wire(), 0);
        x.change(9, 1, 11);
        Check.edge("the longest", x.wire(), 9);
        x.change(3, 1, 11);
        Check.edge("the least of two", x.wire(), 3);
        x.off(3);
        Check.edge("not one that is OFF", x.wire(), 9);
        x.change(9, 1, 10);
        x.off(0);
        Check.edge("the least that is ON", x.wire(), 1);
        ChainedChest y = Check.with(0, 0);
        y.rule(2, 2);
        y.change(0, 9, 2);
        y.change(1, 8, 1);
        y.change(0, 3, 1);
        Check.edge("it need not come off by itself", y.wire(), 1);
        Check.sentence(22, "NONE: there is no WAY OUT by any, or none is ON.");
        y.rule(2, 3);
        Check.edge("by 0 alone", y.wire(), 0);
        y.change(1, 3, 1);
        Check.edge("by none", y.wire(), Check.NONE);
        Check.edge("no LOCKS", new ChainedChest().wire(), Check.NONE);
        ChainedChest z = Check.with(0);
        z.off(0);
        Check.edge("none is ON", z.wire(), Check.NONE);
        z.on(0);
        Check.edge("it is ON again", z.wire(), 0);
    }

    private static void kindFor() {
        Check.sentence(23, "The KIND as which a LOCK makes soonest() least.");
        ChainedChest x = Check.with(4, 0, 0);
        x.rule(2, 1);
        // LOCK 20, ROPE 20 less SLACK, CHAIN 20, OLD 10, RUSTED 14, NAIL, BOLT 20
        x.change(0, 1, 20);
        Check.edge("OLD", x.kindFor(0), 3);
        x.rule(1, 10);
        Check.edge("as a ROPE, as soon as OLD", x.kindFor(0), 1);
        x.rule(1, 9);
        Check.edge("OLD again", x.kindFor(0), 3);
        x.off(1);
        x.off(2);
        // OLD: half of 26; ROPE 11
        Check.edge("two are OFF", x.kindFor(0), 1);
        x.rule(1, 7);
        Check.edge("a ROPE of 13, as soon as OLD", x.kindFor(0), 1);
        x.rule(1, 6);
        Check.edge("a ROPE of 14", x.kindFor(0), 3);
        x.change(0, 1, 1);
        Check.edge("LOCK of 1, as soon as a ROPE", x.kindFor(0), 0);
        Check.edge("it stays RUSTED", x.of(0, 0), 4);
        x.rule(2, 0);
        Check.edge("OUT: the least", x.kindFor(0), 0);
        Check.sentence(23, "BEYOND.");
        for (int lock : new int[] {Integer.MIN_VALUE, -1, 3, 10, Integer.MAX_VALUE}) {
            Check.edge("lock " + lock, x.kindFor(lock), Check.BEYOND);
        }
        Check.sentence(23, "NONE: as none.");
        x.rule(2, 1);
        x.change(0, 8, 1);
        Check.edge("as none", x.kindFor(0), Check.NONE);
        Check.edge("nor by another one", x.kindFor(1), Check.NONE);
        Check.edge("it stays RUSTED then, too", x.of(0, 0), 4);
    }

    private static void link() {
        Check.sentence(24, "Two LOCKS a, b (unlike; b is not in AFTER of a yet): if b comes into AFTER of a, soonest() is greatest of all "
            + "such by which there is a WAY OUT: 10 a and b; of several the least.");
        ChainedChest x = Check.tenLocks();
        Check.edge("OUT: the least", x.link(), 1);
        x.rule(2, 1);
        Check.edge("0 behind any other: the least", x.link(), 1);
        x.change(9, 1, 11);
        Check.edge("0 behind the longest", x.link(), 9);
        x.change(0, 8, 512);
        x.rule(2, 513);
        Check.edge("that stands: 0 or 9 behind another one", x.link(), 1);
        x.change(8, 1, 12);
        Check.edge("0 behind 8", x.link(), 8);
        x.change(0, 8, 512 + 256);
        x.change(7, 1, 13);
        Check.edge("0 behind 7", x.link(), 7);
        x.change(0, 8, 1022);
        Check.edge("0 behind all: the least that lengthens nothing", x.link(), 12);
        ChainedChest y = Check.tenLocks();
        y.rule(2, 512);
        y.change(8, 1, 11);
        Check.edge("9 behind 8", y.link(), 98);
        y.change(8, 8, 512);
        Check.edge("that would be a ring", y.link(), 90);
        y.change(9, 8, 512);
        Check.edge("itself already: no WAY OUT", y.link(), Check.NONE);
    }

    private static void linkOfNone() {
        Check.sentence(24, "NONE: none leaves a WAY OUT.");
        Check.edge("no LOCKS", new ChainedChest().link(), Check.NONE);
        Check.edge("one LOCK", Check.with(0).link(), Check.NONE);
        ChainedChest x = Check.with(0, 0);
        Check.edge("two", x.link(), 1);
        x.change(0, 8, 2);
        Check.edge("one link is left", x.link(), 10);
        x.change(1, 8, 1);
        Check.edge("none is left, though he is OUT", x.link(), Check.NONE);
        x.change(1, 8, 2);
        Check.edge("itself in AFTER is no link", x.link(), 10);
        x.change(1, 8, 0);
        x.rule(2, 3);
        Check.edge("1 behind 0 would be a ring", x.link(), Check.NONE);
        x.rule(2, 2);
        Check.edge("a ring, and 1 is of GOAL", x.link(), Check.NONE);
        x.change(1, 3, 1);
        x.change(0, 8, 0);
        Check.edge("there is no WAY OUT anyhow", x.link(), Check.NONE);
    }

    private static void linked() {
        Check.sentence(25, "What soonest() is then.");
        ChainedChest x = Check.tenLocks();
        Check.edge("OUT", x.linked(), 0);
        x.rule(2, 1);
        x.change(0, 1, 60);
        x.change(7, 1, 59);
        Check.edge("60 and 59", x.linked(), 119);
        Check.edge("by 0 behind 7", x.link(), 7);
        x.change(0, 8, 128);
        Check.edge("and one more", x.linked(), 129);
        x.off(7);
        Check.edge("60 and one more", x.linked(), 70);
        Check.sentence(25, "NONE likewise.");
        x.change(0, 3, 1);
        Check.edge("no WAY OUT", x.linked(), Check.NONE);
        Check.edge("no LOCKS", new ChainedChest().linked(), Check.NONE);
        Check.edge("one LOCK", Check.with(0).linked(), Check.NONE);
    }

    private static void spared() {
        Check.sentence(26, "The LOCK that, left out of GOAL, makes soonest() least.");
        ChainedChest x = Check.tenLocks();
        x.rule(2, 1023);
        Check.edge("of ten alike the least", x.spared(), 0);
        x.change(9, 1, 11);
        Check.edge("the longest", x.spared(), 9);
        x.change(9, 2, 1);
        x.change(8, 3, 1);
        Check.edge("but 8 wants it: then 8 alone makes it no sooner than another one", x.spared(), 0);
        x.rule(2, 512 + 256);
        Check.edge("9 is needed all the same", x.spared(), 8);
        x.rule(2, 256);
        Check.edge("one: OUT without", x.spared(), 8);
        Check.edge("GOAL stays", x.rule(2, 6), 256);
        x.off(1);
        Check.edge("leaving out what is OFF makes it no sooner", x.spared(), 2);
        x.off(2);
        Check.edge("both OFF: the least", x.spared(), 1);
        Check.sentence(26, "NONE: GOAL is empty, or there is no WAY OUT by any.");
        x.rule(2, 0);
        Check.edge("GOAL is empty, though he is OUT", x.spared(), Check.NONE);
        x.change(0, 3, 40);
        x.rule(2, 1);
        Check.edge("the one that can't is left out", x.spared(), 0);
        x.change(3, 3, 40);
        x.rule(2, 9);
        Check.edge("two that can't", x.spared(), Check.NONE);
        Check.edge("GOAL stays then, too", x.rule(2, 0), 9);
        Check.edge("no LOCKS", new ChainedChest().spared(), Check.NONE);
    }

    private static void surest() {
        Check.sentence(27, "The odds of the surest WAY OUT, each STEP by itself failing by WEAK tenths of its LOCK: "
            + "a fraction in lowest terms: above (what 0), below the line (1).");
        odds(1, 1, new ChainedChest());
        int[][] want = {{1, 1}, {9, 10}, {4, 5}, {7, 10}, {3, 5}, {1, 2}, {2, 5}, {3, 10}, {1, 5}, {1, 10}};
        for (int weak = 0; weak < 10; weak++) {
            ChainedChest x = Check.with(0);
            x.change(0, 7, weak);
            odds(1, 1, x);
            x.rule(2, 1);
            odds(want[weak][0], want[weak][1], x);
            x.off(0);
            odds(1, 1, x);
        }
        ChainedChest x = Check.tenLocks();
        x.rule(2, 1023);
        odds(1, 1, x);
        long[] below = {10, 100, 1000, 10000, 100000, 1000000, 10000000, 100000000, 1000000000, 10000000000L};
        for (int l = 0; l < 10; l++) {
            x.change(l, 7, 9);
            odds(1, below[l], x);
        }
        for (int l = 0; l < 10; l++) {
            x.change(l, 7, 5);
        }
        odds(1, 1024, x);
        x.change(9, 7, 2);
        odds(1, 640, x);
        x.off(0);
        odds(1, 320, x);
    }

    private static void odds(long above, long below, ChainedChest x) {
        Check.edge("above the line of " + above + " by " + below, x.surest(0), above);
        Check.edge("below the line of " + above + " by " + below, x.surest(1), below);
    }

    private static void surestBounds() {
        Check.sentence(27, "The odds of the surest WAY OUT");
        // By 1 three tenths, by 2 and 3 each six tenths: 36 hundredths
        ChainedChest x = Check.with(0, 0, 0, 0);
        x.rule(2, 1);
        x.change(0, 3, 8);
        x.change(1, 2, 8);
        x.change(2, 2, 4);
        x.change(3, 2, 4);
        x.change(1, 7, 7);
        x.change(2, 7, 4);
        x.change(3, 7, 4);
        odds(9, 25, x);
        x.change(1, 7, 6);
        odds(2, 5, x);
        Check.sentence(27, "BEYOND.");
        for (int what : new int[] {Integer.MIN_VALUE, -1, 2, 3, Integer.MAX_VALUE}) {
            Check.edge("what " + what, x.surest(what), Check.BEYOND);
        }
        Check.sentence(27, "NONE: there is no WAY OUT.");
        x.change(0, 3, 17);
        Check.edge("above", x.surest(0), Check.NONE);
        Check.edge("below", x.surest(1), Check.NONE);
        x.change(0, 3, 16);
        odds(4 * 36, 1000, 18, 125, x);
    }

    /** So much as it is, and in lowest terms. */
    private static void odds(int parts, int of, int above, int below, ChainedChest x) {
        Check.edge("the fraction itself", (long) parts * below, (long) of * above);
        odds(above, below, x);
    }
}
