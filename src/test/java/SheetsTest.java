/** Promises 37 to 43: spots, sheets. */
final class SheetsTest {
    private SheetsTest() {
    }

    static void run() {
        hold();
        as();
        sheet();
        write();
        copy();
        copyFindings();
        load();
        judge();
    }

    private static void hold() {
        ChainedChest x = Check.with(0, 1);
        Check.due(37, "spot 0", x.hold(0, 1), 1);
        Check.due(37, "spot 9", x.hold(9, 1), 1);
        Check.due(37, "nothing", x.hold(5, -1), 1);
        Check.due(37, "two hold", x.count(7), 2);
        Check.due(37, "nothing again", x.hold(9, -1), 1);
        Check.due(37, "one holds", x.count(7), 1);
        Check.due(37, "spot 10", x.hold(10, 0), Check.BEYOND);
        Check.due(37, "spot -1", x.hold(-1, 0), Check.BEYOND);
        Check.due(37, "lock 2", x.hold(0, 2), Check.BEYOND);
        Check.due(37, "lock -2", x.hold(0, -2), Check.BEYOND);
        Check.due(37, "it stays", x.as(0, 1), 1);
        Check.due(37, "findings", x.status(0), 4);
    }

    private static void as() {
        // of each KIND, the kinds as which it can be had
        int[] over = {1, 1 + 2, 1 + 4, 1 + 4 + 8, 1 + 4 + 8 + 16, 1 + 2 + 32, 1 + 64};
        ChainedChest x = Check.with(0, 1, 2, 3, 4, 5, 6);
        for (int lock = 0; lock < 7; lock++) {
            x.hold(lock, lock);
            for (int kind = 0; kind < 7; kind++) {
                int want = (over[lock] >> kind & 1) != 0 ? lock : Check.KIND;
                Check.due(38, "kind " + lock + " as " + kind, x.as(lock, kind), want);
            }
        }
        Check.due(38, "KIND told", x.status(2), 49 - 17);
        Check.due(38, "spot 10", x.as(10, 0), Check.BEYOND);
        Check.due(38, "spot -1", x.as(-1, 0), Check.BEYOND);
        Check.due(38, "kind 7", x.as(9, 7), Check.BEYOND);
        Check.due(38, "kind -1", x.as(9, -1), Check.BEYOND);
        Check.due(38, "nothing", x.as(9, 0), Check.MISSING);
        x.change(0, 0, 4);
        Check.due(38, "its KIND as it is now", x.as(0, 3), 0);
        x.hold(0, -1);
        Check.due(38, "nothing any more", x.as(0, 0), Check.MISSING);
    }

    private static void sheet() {
        ChainedChest x = Check.with(0, 0, 0);
        Check.due(39, "sheet -1", x.sheet(-1, 8, 1), Check.BEYOND);
        Check.due(39, "sheet 4", x.sheet(4, 8, -1), Check.BEYOND);
        Check.due(39, "bits 4", x.sheet(0, 4, -1), Check.BEYOND);
        Check.due(39, "bits 64", x.sheet(0, 64, 1), Check.BEYOND);
        Check.due(39, "n -1", x.sheet(0, 8, -1), Check.SIZE);
        Check.due(39, "n -1 with bits 0", x.sheet(0, 0, -1), Check.SIZE);
        Check.due(39, "n 41", x.sheet(0, 8, 41), Check.BEYOND);
        Check.due(39, "n 41 with bits 0", x.sheet(0, 0, 41), Check.BEYOND);
        Check.due(39, "MISSING still", x.write(0, 0, 1), Check.MISSING);
        Check.due(39, "40", x.sheet(3, 32, 40), 40);
        Check.due(39, "the 40th", x.write(3, 39, 1), 1);
        Check.due(39, "none", x.sheet(0, 16, 0), 0);
        Check.due(39, "it is there", x.judge(0), 0);
        Check.due(39, "bits 0", x.sheet(0, 0, 40), 0);
        Check.due(39, "MISSING", x.judge(0), Check.MISSING);
        Check.fill(x, 1, 8, 1, 2, 0);
        Check.due(39, "1 2 0", x.judge(1), 0);
        Check.due(39, "anew", x.sheet(1, 8, 2), 2);
        Check.due(39, "all 0: no TIMES", x.load(1), 0);
        Check.due(39, "all 0: LOCK 0 twice", x.judge(1), 2);
        Check.due(39, "n is kept to", x.write(1, 2, 0), Check.BEYOND);
        Check.due(39, "SIZE told", x.status(6), 2);
        Check.due(39, "BEYOND told", x.status(0), 7);
    }

    private static void write() {
        ChainedChest x = Check.with(0);
        Check.due(40, "sheet 4", x.write(4, 0, 0), Check.BEYOND);
        Check.due(40, "sheet -1", x.write(-1, 0, 0), Check.BEYOND);
        Check.due(40, "MISSING", x.write(0, 99, 0), Check.MISSING);
        x.sheet(0, 8, 2);
        Check.due(40, "number 2", x.write(0, 2, 0), Check.BEYOND);
        Check.due(40, "number -1", x.write(0, -1, 0), Check.BEYOND);
        Check.due(40, "no number of none", Check.with().write(0, 0, 0), Check.MISSING);
        // load() tells whether what stands there is 1 to 60, and of() what
        lowest(x, 8, 256 + 7, 7);
        lowest(x, 8, 255, -1);
        lowest(x, 8, 128, -1);
        lowest(x, 16, 255, -1);
        lowest(x, 16, 65536 + 9, 9);
        lowest(x, 16, 65535, -1);
        lowest(x, 32, 65536 + 9, -1);
        lowest(x, 32, 60, 60);
        // with its sign: -1 is no LOCK, and SOUNDS are told as they are
        x.rule(2, 0);
        x.change(0, 0, 4);
        x.change(0, 1, 60);
        Check.fill(x, 0, 8, 62 - 256);
        Check.due(40, "62 in 8 bits", x.fits(0), 1);
        Check.fill(x, 0, 16, 62 - 256);
        Check.due(40, "-194 in 16 bits", x.fits(0), 0);
        Check.fill(x, 0, 16, 62 + 65536);
        Check.due(40, "62 in 16 bits", x.fits(0), 1);
    }

    private static void lowest(ChainedChest x, int bits, int v, int time) {
        x.sheet(0, bits, 1);
        Check.due(40, "write", x.write(0, 0, v), 1);
        Check.due(40, v + " in " + bits + " bits as TIME", x.load(0) == 1 ? x.of(0, 1) : -1, time);
    }

    private static void copy() {
        ChainedChest x = Check.with(0, 0, 0, 0, 0);
        Check.fill(x, 0, 8, 11, 12, 13, 14, 15);
        Check.fill(x, 1, 8, 21, 22, 23, 24, 25);
        Check.due(41, "three", x.copy(0, 1, 1, 2, 3), 3);
        times(x, 1, 21, 22, 12, 13, 14);
        times(x, 0, 11, 12, 13, 14, 15);
        Check.due(41, "into itself, on", x.copy(0, 0, 0, 1, 4), 4);
        times(x, 0, 11, 11, 12, 13, 14);
        Check.due(41, "into itself, back", x.copy(0, 2, 0, 0, 3), 3);
        times(x, 0, 12, 13, 14, 13, 14);
        Check.due(41, "none", x.copy(0, 5, 1, 5, 0), 0);
        times(x, 1, 21, 22, 12, 13, 14);
        Check.due(41, "all", x.copy(1, 0, 0, 0, 5), 5);
        times(x, 0, 21, 22, 12, 13, 14);
    }

    private static void times(ChainedChest x, int s, int... want) {
        Check.due(42, "all come", x.load(s), want.length);
        for (int l = 0; l < want.length; l++) {
            Check.due(41, "number " + l + " of sheet " + s, x.of(l, 1), want[l]);
        }
    }

    private static void copyFindings() {
        ChainedChest x = new ChainedChest();
        x.sheet(0, 8, 5);
        x.sheet(1, 16, 5);
        x.sheet(2, 8, 3);
        Check.due(41, "sheet -1", x.copy(-1, 0, 3, 0, 1), Check.BEYOND);
        Check.due(41, "sheet 4", x.copy(3, 0, 4, 0, 1), Check.BEYOND);
        Check.due(41, "the first MISSING", x.copy(3, 0, 1, 0, 9), Check.MISSING);
        Check.due(41, "the second MISSING", x.copy(0, 0, 3, 0, 9), Check.MISSING);
        Check.due(41, "unlike bits", x.copy(0, 0, 1, 0, 9), Check.KIND);
        Check.due(41, "from has not so many", x.copy(2, 1, 0, 0, 3), Check.BEYOND);
        Check.due(41, "to has not so many", x.copy(0, 0, 2, 1, 3), Check.BEYOND);
        Check.due(41, "from -1", x.copy(0, -1, 2, 0, 1), Check.BEYOND);
        Check.due(41, "to -1", x.copy(0, 0, 2, -1, 1), Check.BEYOND);
        Check.due(41, "n -1", x.copy(0, 1, 2, 1, -1), Check.BEYOND);
        Check.due(41, "from 6, none", x.copy(0, 6, 2, 0, 0), Check.BEYOND);
        Check.due(41, "from past all ints", x.copy(0, Integer.MAX_VALUE, 2, 0, 1), Check.BEYOND);
        Check.due(41, "n past all ints", x.copy(0, 1, 2, 1, Integer.MAX_VALUE), Check.BEYOND);
        Check.due(41, "findings", x.status(-1), 13);
    }

    private static void load() {
        ChainedChest x = Check.with(0, 0, 0);
        Check.due(42, "sheet 4", x.load(4), Check.BEYOND);
        Check.due(42, "sheet -1", x.load(-1), Check.BEYOND);
        Check.due(42, "MISSING", x.load(0), Check.MISSING);
        Check.fill(x, 0, 8, 60, 1, 61, 5);
        Check.due(42, "it ends at 61", x.load(0), 2);
        Check.due(42, "60", x.of(0, 1), 60);
        Check.due(42, "1", x.of(1, 1), 1);
        Check.due(42, "none behind", x.of(2, 1), 10);
        Check.fill(x, 0, 8, 7, 8, 9, 5);
        Check.due(42, "no LOCK for the fourth", x.load(0), 3);
        Check.due(42, "all TIMES", x.count(4), 24);
        Check.fill(x, 0, 8, 0, 8);
        Check.due(42, "0", x.load(0), 0);
        Check.fill(x, 0, 8, 20);
        Check.due(42, "a short one", x.load(0), 1);
        Check.due(42, "all TIMES", x.count(4), 37);
        Check.due(42, "no LOCKS", loadOfNone(), 0);
    }

    private static int loadOfNone() {
        ChainedChest x = new ChainedChest();
        Check.fill(x, 0, 8, 5);
        return x.load(0);
    }

    private static void judge() {
        ChainedChest x = Check.with(0, 0, 0);
        x.change(1, 8, 1);
        Check.due(43, "sheet 4", x.judge(4), Check.BEYOND);
        Check.due(43, "sheet -1", x.judge(-1), Check.BEYOND);
        Check.due(43, "MISSING", x.judge(1), Check.MISSING);
        Check.fill(x, 1, 8, 0, 1, 2);
        Check.due(43, "each MAY", x.judge(1), 0);
        Check.fill(x, 1, 8, 2, 1, 0);
        Check.due(43, "the second may not", x.judge(1), 2);
        Check.fill(x, 1, 8, 0, 2, 0);
        Check.due(43, "it is OFF then", x.judge(1), 3);
        Check.fill(x, 1, 8, 3);
        Check.due(43, "no LOCK", x.judge(1), 1);
        Check.fill(x, 1, 8, 0, 255);
        Check.due(43, "-1 is no LOCK", x.judge(1), 2);
        Check.fill(x, 1, 32, 0, 32);
        Check.due(43, "32 is no LOCK", x.judge(1), 2);
        Check.fill(x, 1, 8);
        Check.due(43, "none", x.judge(1), 0);
        x.off(0);
        Check.fill(x, 1, 8, 1);
        Check.due(43, "as it is now", x.judge(1), 0);
        Check.due(43, "nothing changes", x.now(2), 1);
    }
}
