/** Promises 28 to 33, sentence by sentence: sounds, draws. */
final class SoundsEdgesTest {
    private static final int[] NO_SHEETS = {Integer.MIN_VALUE, -1, 4, 5, 100, Integer.MAX_VALUE};

    private SoundsEdgesTest() {
    }

    static void run() {
        fits();
        fitsAtMostEight();
        maybe();
        surely();
        noSheets();
        hear();
        friday();
        fridayTries();
        fridayTillOut();
        fridayFails();
        fridayBeyond();
        seed();
    }

    private static void fits() {
        Check.sentence(28, "How many rows of as many STEPS as a sheet has numbers");
        ChainedChest x = Check.with(0, 6, 1);
        Check.fill(x, 0, 8);
        Check.edge("of none: the row without STEPS", x.fits(0), 1);
        Check.fill(x, 0, 8, 2);
        Check.edge("of one", x.fits(0), 2);
        Check.fill(x, 0, 8, 2, 2);
        Check.edge("of two", x.fits(0), 2);
        Check.fill(x, 0, 8, 2, 2, 0);
        Check.edge("of all", x.fits(0), 2);
        Check.fill(x, 0, 8, 2, 2, 0, 0);
        Check.edge("of one more than there are", x.fits(0), 0);
        x.off(2);
        Check.fill(x, 0, 8, 2, 2);
        Check.edge("from as it is now", x.fits(0), 2);
        Check.sentence(28, "SOUND, one behind the other, just so.");
        ChainedChest y = Check.with(0, 1, 5);
        y.change(1, 8, 1);
        y.change(2, 8, 2);
        Check.fill(y, 3, 32, 2, 0, 4);
        Check.edge("just so", y.fits(3), 1);
        for (int i = 0; i < 3; i++) {
            for (int v : new int[] {Integer.MIN_VALUE, -1, 1, 3, 5, Integer.MAX_VALUE}) {
                Check.fill(y, 3, 32, 2, 0, 4);
                y.write(3, i, v);
                Check.edge("number " + i + " is " + v, y.fits(3), 0);
            }
        }
        Check.edge("no LOCKS, no numbers", rowsOfNone(0), 1);
        Check.edge("no LOCKS, one number", rowsOfNone(1), 0);
    }

    private static int rowsOfNone(int n) {
        ChainedChest x = new ChainedChest();
        x.sheet(0, 8, n);
        return x.fits(0);
    }

    private static void fitsAtMostEight() {
        Check.sentence(28, "(at most 8; beyond that they don't count)");
        ChainedChest x = Check.tenLocks();
        // 10 times 9 and so on, down from ten, as many as there are numbers
        int[] rows = {1, 10, 90, 720, 5040, 30240, 151200, 604800, 1814400, 1814400, 1814400, 1814400};
        for (int n = 0; n < rows.length; n++) {
            x.sheet(0, 16, n);
            for (int i = 0; i < n; i++) {
                x.write(0, i, i < 8 ? 2 : 1);
            }
            Check.edge(n + " numbers", x.fits(0), rows[n]);
        }
        Check.edge("the ninth doesn't count for maybe()", x.maybe(0), 1023);
        Check.edge("nor for surely()", x.surely(0), 0);
        x.sheet(0, 16, 40);
        for (int i = 0; i < 8; i++) {
            x.write(0, i, 2);
        }
        Check.edge("40 numbers", x.fits(0), 1814400);
        x.write(0, 7, 1);
        Check.edge("the eighth does count", x.fits(0), 0);
        for (int l = 1; l < 10; l++) {
            x.change(l, 8, (1 << l) - 1);
        }
        x.write(0, 7, 2);
        Check.edge("one row", x.fits(0), 1);
        Check.edge("eight are OFF behind it", x.maybe(0), 255);
        Check.edge("for sure", x.surely(0), 255);
    }

    private static void maybe() {
        Check.sentence(29, "LOCKS that are OFF behind any such row, as a set.");
        ChainedChest x = Check.with(0, 1, 0, 1);
        Check.fill(x, 1, 8);
        Check.edge("no numbers, none is OFF", x.maybe(1), 0);
        x.off(3);
        Check.edge("no numbers, what is OFF now", x.maybe(1), 8);
        Check.fill(x, 1, 8, 2);
        Check.edge("0 or 2, and what is OFF now", x.maybe(1), 13);
        Check.fill(x, 1, 8, 2, 0, 2);
        Check.edge("all", x.maybe(1), 15);
        Check.sentence(29, "NONE: there is none.");
        Check.fill(x, 1, 8, 2, 0, 2, 0);
        Check.edge("one too many", x.maybe(1), Check.NONE);
        Check.fill(x, 1, 8, 4);
        Check.edge("none SOUNDS 4", x.maybe(1), Check.NONE);
    }

    private static void surely() {
        Check.sentence(30, "LOCKS that are OFF behind all such rows, as a set.");
        ChainedChest x = Check.with(0, 1, 0, 1);
        Check.fill(x, 1, 8);
        Check.edge("no numbers, none is OFF", x.surely(1), 0);
        x.off(3);
        Check.edge("no numbers, what is OFF now", x.surely(1), 8);
        Check.fill(x, 1, 8, 2);
        Check.edge("0 or 2: neither", x.surely(1), 8);
        Check.fill(x, 1, 8, 0);
        Check.edge("1 alone", x.surely(1), 10);
        Check.fill(x, 1, 8, 2, 0, 2);
        Check.edge("all", x.surely(1), 15);
        Check.sentence(30, "NONE.");
        Check.fill(x, 1, 8, 2, 0, 2, 0);
        Check.edge("one too many", x.surely(1), Check.NONE);
        Check.fill(x, 1, 8, 0, 0);
        Check.edge("one ROPE twice", x.surely(1), Check.NONE);
    }

    private static void noSheets() {
        for (int promise = 28; promise <= 30; promise++) {
            Check.sentence(promise, "BEYOND: no such sheet.");
            for (int s : NO_SHEETS) {
                ChainedChest x = Check.with(0);
                Check.edge("sheet " + s, asked(x, promise, s), Check.BEYOND);
            }
            Check.sentence(promise, "MISSING.");
            for (int s = 0; s < 4; s++) {
                ChainedChest x = Check.with(0);
                Check.edge("sheet " + s, asked(x, promise, s), Check.MISSING);
                x.sheet(s, 8, 0);
                Check.edge("sheet " + s + " is there", asked(x, promise, s), promise == 28 ? 1 : 0);
                x.sheet(s, 0, 0);
                Check.edge("sheet " + s + " is MISSING again", asked(x, promise, s), Check.MISSING);
            }
        }
    }

    private static int asked(ChainedChest x, int promise, int s) {
        return promise == 28 ? x.fits(s) : promise == 29 ? x.maybe(s) : x.surely(s);
    }

    private static void hear() {
        Check.sentence(31, "LOCKS whose STEP now SOUNDS v, as a set of those that MAY.");
        ChainedChest x = Check.tenLocks();
        Check.edge("all ten", x.hear(2), 1023);
        x.change(0, 3, 1);
        x.off(9);
        Check.edge("not one that WANTS, nor one that is OFF", x.hear(2), 510);
        x.change(8, 0, 1);
        Check.edge("0", x.hear(0), 256);
        x.change(8, 0, 4);
        x.change(8, 1, 60);
        Check.edge("the loudest", x.hear(62), 256);
        Check.edge("one more", x.hear(63), 0);
        Check.edge("one less", x.hear(61), 0);
        Check.edge("of none", new ChainedChest().hear(2), 0);
        Check.sentence(31, "BEYOND: v is not 0 to 99.");
        for (int v : new int[] {Integer.MIN_VALUE, -1, 100, 101, Integer.MAX_VALUE}) {
            Check.edge("v " + v, x.hear(v), Check.BEYOND);
        }
        Check.edge("v 0", x.hear(0), 0);
        Check.edge("v 99", x.hear(99), 0);
    }

    private static void friday() {
        Check.sentence(32, "A Friday: all are ON, CLOCK and HEARD 0;");
        ChainedChest x = Check.with(0, 0);
        x.rule(3, 0);
        x.rule(2, 3);
        x.off(0);
        x.off(1);
        x.change(0, 3, 1);
        x.change(1, 3, 1);
        Check.edge("OUT and HEARD ahead", x.now(5) + x.now(1), 5);
        Check.edge("none MAY", x.friday(1), 0);
        Check.edge("all are ON", x.now(2), 0);
        Check.edge("CLOCK", x.now(0), 0);
        Check.edge("HEARD", x.now(1), 0);
        Check.sentence(32, "if any MAY:");
        Check.edge("no draw", x.count(6), 1);
        x.change(1, 3, 0);
        Check.edge("one MAY, then none", x.friday(20), 1);
        Check.edge("two draws", x.count(6), Check.nextZ(Check.nextZ(1)));
    }

    /** One LOCK that nearly always fails: each try makes two draws, and no more than n are made. */
    private static void fridayTries() {
        Check.sentence(32, "then as often as n tells (1 to 20)");
        for (int n = 1; n <= 20; n++) {
            ChainedChest x = Check.with(0);
            x.rule(2, 1);
            x.change(0, 7, 9);
            int seed = failing(n);
            x.seed(seed);
            Check.edge("all of " + n + " fail", x.friday(n), 0);
            long z = seed;
            for (int i = 0; i < 2 * n; i++) {
                z = Check.nextZ(z);
            }
            Check.edge("as many draws as of " + n + " tries", x.count(6), z);
            Check.edge("CLOCK", x.now(0), 0);
        }
        ChainedChest x = Check.tenLocks();
        x.rule(2, 1023);
        for (int n = 1; n <= 10; n++) {
            Check.edge(n + " tries of ten", x.friday(n), n);
            Check.edge("OUT", x.now(5), n == 10 ? 1 : 0);
        }
        Check.edge("20 tries of ten", x.friday(20), 10);
    }

    /** A z from which n tries fail by nine tenths. */
    private static int failing(int n) {
        for (int seed = 0; ; seed++) {
            long z = seed;
            int tries = 0;
            while (tries < n) {
                z = Check.nextZ(Check.nextZ(z));
                if (Check.draw(z) % 10 == 9) {
                    break;
                }
                tries++;
            }
            if (tries == n) {
                return seed;
            }
        }
    }

    private static void fridayTillOut() {
        Check.sentence(32, "the one of those that MAY (by numbers) whose number from 0 is the rest of a draw by how many may;");
        for (int seed = 0; seed < 20; seed++) {
            ChainedChest x = Check.tenLocks();
            x.rule(2, 1023);
            x.change(0, 3, 1);
            x.change(4, 3, 1);
            x.change(9, 3, 1);
            x.seed(seed);
            x.friday(1);
            int[] may = {1, 2, 3, 5, 6, 7, 8};
            Check.edge("of seven, from " + seed, x.now(2), 1 << may[Check.draw(Check.nextZ(seed)) % 7]);
        }
        Check.sentence(32, "till he is OUT: how many STEPS.");
        for (int seed = 0; seed < 30; seed++) {
            ChainedChest x = Check.tenLocks();
            x.rule(2, 8);
            x.seed(seed);
            int steps = x.friday(20);
            Check.edge("OUT from " + seed, x.now(5), 1);
            Check.edge("STEPS from " + seed, steps, Integer.bitCount(x.now(2)));
            Check.edge("CLOCK from " + seed, x.now(0), 10 * steps);
            long z = seed;
            int left = 1023;
            int due = 0;
            while ((left & 8) != 0) {
                z = Check.nextZ(z);
                int nth = Check.draw(z) % Integer.bitCount(left);
                int bits = left;
                for (int i = 0; i < nth; i++) {
                    bits &= bits - 1;
                }
                left &= ~(bits & -bits);
                z = Check.nextZ(z);
                due++;
            }
            Check.edge("by the draws from " + seed, x.now(2), 1023 & ~left);
            Check.edge("no more draws from " + seed, x.count(6), z);
            Check.edge("no more STEPS from " + seed, steps, due);
        }
        ChainedChest x = Check.with(0);
        Check.edge("OUT as it begins", x.friday(20), 0);
        Check.edge("no draw then", x.count(6), 1);
    }

    private static void fridayFails() {
        Check.sentence(32, "it fails by WEAK (the rest of the next draw by 10 below WEAK), else it is a STEP;");
        for (int seed = 0; seed < 20; seed++) {
            int rest = Check.draw(Check.nextZ(Check.nextZ(seed))) % 10;
            for (int weak = 0; weak < 10; weak++) {
                ChainedChest x = Check.with(0);
                x.rule(2, 1);
                x.rule(3, 0);
                x.change(0, 7, weak);
                x.seed(seed);
                Check.edge("rest " + rest + ", WEAK " + weak, x.friday(1), rest < weak ? 0 : 1);
                Check.edge("OFF by it", x.now(2), rest < weak ? 0 : 1);
                Check.edge("HEARD by it", x.now(1), rest < weak ? 0 : 2);
                Check.edge("both draws, rest " + rest + ", WEAK " + weak, x.count(6), Check.nextZ(Check.nextZ(seed)));
            }
        }
    }

    private static void fridayBeyond() {
        Check.sentence(32, "BEYOND. STATE: there are no LOCKS.");
        ChainedChest x = new ChainedChest();
        for (int n : new int[] {Integer.MIN_VALUE, -1, 0, 21, 22, Integer.MAX_VALUE}) {
            Check.edge("n " + n + " of no LOCKS", x.friday(n), Check.BEYOND);
        }
        Check.edge("n 1", x.friday(1), Check.STATE);
        Check.edge("n 20", x.friday(20), Check.STATE);
        Check.edge("no draw", x.count(6), 1);
        x.lock(0);
        x.off(0);
        for (int n : new int[] {Integer.MIN_VALUE, -1, 0, 21, 22, Integer.MAX_VALUE}) {
            Check.edge("n " + n, x.friday(n), Check.BEYOND);
        }
        Check.edge("no Friday was", x.now(0) + x.now(2), 11);
        Check.edge("n 1 of one", x.friday(1), 0);
        Check.edge("a Friday was", x.now(0) + x.now(2), 0);
    }

    private static void seed() {
        Check.sentence(33, "z becomes v: what it was.");
        ChainedChest x = new ChainedChest();
        int was = 1;
        for (int v : new int[] {Integer.MIN_VALUE, Integer.MAX_VALUE, 0, -1}) {
            Check.edge("what it was", x.seed(v), was);
            was = v;
        }
        Check.edge("the last", x.count(6), -1);
    }
}
