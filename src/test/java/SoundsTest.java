/** Promises 28 to 31: sounds. */
final class SoundsTest {
    private SoundsTest() {
    }

    static void run() {
        findings();
        rowsOfSounds();
        atMostEight();
        behindOut();
        hear();
    }

    private static void findings() {
        ChainedChest x = Check.with(0);
        for (int s : new int[] {-1, 4}) {
            Check.due(28, "no such sheet", x.fits(s), Check.BEYOND);
            Check.due(29, "no such sheet", x.maybe(s), Check.BEYOND);
            Check.due(30, "no such sheet", x.surely(s), Check.BEYOND);
        }
        Check.due(28, "MISSING", x.fits(3), Check.MISSING);
        Check.due(29, "MISSING", x.maybe(3), Check.MISSING);
        Check.due(30, "MISSING", x.surely(3), Check.MISSING);
        Check.fill(x, 0, 8, 3);
        Check.due(28, "no row", x.fits(0), 0);
        Check.due(29, "no row", x.maybe(0), Check.NONE);
        Check.due(30, "no row", x.surely(0), Check.NONE);
        Check.due(30, "told", x.status(-1), 11);
    }

    private static void rowsOfSounds() {
        // LOCKS 0 and 1 sound 2, ROPE 2 0, NAIL 3 4 behind 0 alone
        ChainedChest x = Check.with(0, 0, 1, 5);
        x.change(3, 8, 1);
        Check.fill(x, 0, 8);
        Check.due(28, "the row without STEPS", x.fits(0), 1);
        Check.due(29, "as it is", x.maybe(0), 0);
        Check.due(30, "as it is", x.surely(0), 0);
        Check.fill(x, 0, 16, 2);
        Check.due(28, "0 or 1", x.fits(0), 2);
        Check.due(29, "either", x.maybe(0), 3);
        Check.due(30, "neither for sure", x.surely(0), 0);
        Check.fill(x, 0, 32, 2, 4);
        Check.due(28, "0, 3", x.fits(0), 1);
        Check.due(29, "0, 3", x.maybe(0), 9);
        Check.due(30, "0, 3", x.surely(0), 9);
        Check.fill(x, 0, 32, 2);
        Check.due(29, "maybe() by itself", x.maybe(0), 3);
        Check.fill(x, 0, 32, 2, 4);
        Check.due(30, "surely() by itself", x.surely(0), 9);
        Check.fill(x, 0, 8, 2, 0, 2, 4);
        Check.due(28, "0213, 1203", x.fits(0), 2);
        Check.fill(x, 0, 8, 2, 0, 4);
        Check.due(28, "0, 2, 3", x.fits(0), 1);
        Check.fill(x, 0, 8, 2, 0);
        Check.due(28, "0 or 1, 2", x.fits(0), 2);
        Check.due(29, "three", x.maybe(0), 7);
        Check.due(30, "2 for sure", x.surely(0), 4);
        Check.fill(x, 0, 8, 0, 0);
        Check.due(28, "0 0: not just so", x.fits(0), 0);
        x.off(2);
        Check.fill(x, 0, 8, 2, 2);
        Check.due(28, "01, 10", x.fits(0), 2);
        Check.due(29, "what is OFF now, too", x.maybe(0), 7);
        Check.due(30, "all of them", x.surely(0), 7);
        Check.fill(x, 0, 8, 2, 2, 4, 0);
        Check.due(28, "more than there are", x.fits(0), 0);
    }

    private static void atMostEight() {
        ChainedChest x = Check.with(0, 0, 0, 0, 0, 0, 0, 0, 0, 0);
        Check.fill(x, 1, 8, 2, 2, 2, 2, 2, 2, 2, 2);
        Check.due(28, "eight of ten", x.fits(1), 1814400);
        Check.fill(x, 1, 8, 2, 2, 2, 2, 2, 2, 2, 2, 77, 1);
        Check.due(28, "the ninth doesn't count", x.fits(1), 1814400);
        Check.due(29, "any", x.maybe(1), 1023);
        Check.due(30, "none for sure", x.surely(1), 0);
        Check.fill(x, 1, 8, 2, 2, 2, 2, 2, 2, 2, 77);
        Check.due(28, "the eighth does", x.fits(1), 0);
    }

    private static void behindOut() {
        ChainedChest x = Check.with(0, 1);
        x.rule(2, 1);
        Check.fill(x, 2, 8, 2, 0);
        Check.due(28, "rows go on behind OUT", x.fits(2), 1);
        x.rule(3, 60);
        Check.due(28, "whether THE BAND plays or not", x.fits(2), 1);
    }

    private static void hear() {
        ChainedChest x = Check.with(0, 1, 4, 6, 5, 0);
        x.change(2, 1, 60);
        x.change(5, 3, 1);
        Check.due(31, "2: LOCK and BOLT, not that which wants", x.hear(2), 1 + 8);
        Check.due(31, "0: ROPE", x.hear(0), 2);
        Check.due(31, "62: RUSTED", x.hear(62), 4);
        Check.due(31, "4: NAIL", x.hear(4), 16);
        Check.due(31, "1: none", x.hear(1), 0);
        Check.due(31, "99: none", x.hear(99), 0);
        x.off(3);
        Check.due(31, "not what is OFF", x.hear(2), 1);
        Check.due(31, "100", x.hear(100), Check.BEYOND);
        Check.due(31, "-1", x.hear(-1), Check.BEYOND);
        Check.due(31, "findings", x.status(0), 2);
    }
}
