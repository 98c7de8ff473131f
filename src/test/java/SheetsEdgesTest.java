/** Promises 37 to 43, and what the Terms tell of SPOTS and SHEETS, sentence by sentence. */
final class SheetsEdgesTest {
    private static final int MIN = Integer.MIN_VALUE;
    private static final int MAX = Integer.MAX_VALUE;
    private static final int[] NO_SHEETS = {MIN, -1, 4, 5, 100, MAX};

    private SheetsEdgesTest() {
    }

    static void run() {
        spots();
        hold();
        as();
        sheetsAtFirst();
        sheet();
        sheetSize();
        write();
        lowestBits();
        copy();
        copyBeyond();
        copyKinds();
        load();
        loadEnds();
        judge();
    }

    private static void spots() {
        Check.sentence(0, "SPOTS 0 to 9 hold a LOCK or nothing (at first).");
        ChainedChest x = Check.tenLocks();
        for (int spot = 0; spot < 10; spot++) {
            Check.edge("nothing at first", x.as(spot, 0), Check.MISSING);
            Check.edge("how many hold", x.count(7), spot);
            Check.edge("the last LOCK", x.hold(spot, 9 - spot), 1);
            Check.edge("it holds it", x.as(spot, 0), 9 - spot);
        }
        Check.edge("all ten hold", x.count(7), 10);
        for (int spot = 0; spot < 10; spot++) {
            Check.edge("nothing", x.hold(spot, -1), 1);
            Check.edge("nothing once more", x.hold(spot, -1), 1);
            Check.edge("how many hold still", x.count(7), 9 - spot);
        }
    }

    private static void hold() {
        Check.sentence(37, "A SPOT holds a LOCK, or nothing (-1): 1.");
        ChainedChest x = Check.with(0, 0);
        Check.edge("one LOCK in two SPOTS", x.hold(0, 1) + x.hold(9, 1), 2);
        Check.edge("both hold it", x.as(0, 0) + x.as(9, 0), 2);
        Check.edge("an other one comes for it", x.hold(0, 0), 1);
        Check.edge("that one now", x.as(0, 0), 0);
        Check.edge("nothing", x.hold(0, -1), 1);
        Check.edge("nothing now", x.as(0, 0), Check.MISSING);
        Check.sentence(37, "BEYOND.");
        for (int spot : new int[] {MIN, -1, 10, 11, 100, MAX}) {
            Check.edge("SPOT " + spot, x.hold(spot, 0), Check.BEYOND);
            Check.edge("SPOT " + spot + ", nothing", x.hold(spot, -1), Check.BEYOND);
        }
        for (int lock : new int[] {MIN, -2, 2, 3, 10, MAX}) {
            Check.edge("lock " + lock, x.hold(9, lock), Check.BEYOND);
        }
        Check.edge("it holds what it did", x.as(9, 0), 1);
        Check.edge("nothing of none", new ChainedChest().hold(0, -1), 1);
        Check.edge("lock 0 of none", new ChainedChest().hold(0, 0), Check.BEYOND);
    }

    private static void as() {
        Check.sentence(38, "What a SPOT holds as one of a kind (0 to 6): the number of the LOCK.");
        ChainedChest x = Check.tenLocks();
        x.change(9, 0, 6);
        x.hold(3, 9);
        Check.edge("kind 0", x.as(3, 0), 9);
        Check.edge("kind 6", x.as(3, 6), 9);
        Check.sentence(38, "BEYOND. MISSING: it holds nothing.");
        for (int wild : new int[] {MIN, -1, 10, 11, 100, MAX}) {
            Check.edge("SPOT " + wild, x.as(wild, 0), Check.BEYOND);
            Check.edge("kind " + wild, x.as(3, wild), Check.BEYOND);
            Check.edge("kind " + wild + " of nothing", x.as(4, wild), Check.BEYOND);
        }
        Check.edge("kind 7", x.as(3, 7), Check.BEYOND);
        Check.edge("nothing", x.as(4, 0), Check.MISSING);
        Check.sentence(38, "KIND: it isn't of that kind, nor of one under it.");
        int[][] isOf = {{0}, {0, 1}, {0, 2}, {0, 2, 3}, {0, 2, 3, 4}, {0, 1, 5}, {0, 6}};
        for (int kind = 0; kind < 7; kind++) {
            x.change(9, 0, kind);
            int[] due = new int[7];
            java.util.Arrays.fill(due, Check.KIND);
            for (int over : isOf[kind]) {
                due[over] = 9;
            }
            for (int over = 0; over < 7; over++) {
                Check.edge(kind + " as " + over, x.as(3, over), due[over]);
            }
        }
    }

    private static void sheetsAtFirst() {
        Check.sentence(0, "SHEETS 0 to 3: rows of at most 40 numbers of 8, 16 or 32 bits (told with their sign: of 8 bits 255 is -1), or MISSING (at first).");
        ChainedChest x = Check.with(0, 4);
        for (int s = 0; s < 4; s++) {
            Check.edge("MISSING at first", x.write(s, 0, 0), Check.MISSING);
            Check.edge("40 numbers", x.sheet(s, 8 << s % 3, 40), 40);
            Check.edge("the first", x.write(s, 0, 1), 1);
            Check.edge("the last", x.write(s, 39, 1), 1);
            Check.edge("no 41st", x.write(s, 40, 1), Check.BEYOND);
            Check.edge("41 numbers", x.sheet(s, 8, 41), Check.BEYOND);
        }
        // As a LOCK of a STEP 255 would be barred either way: what tells them apart is that no width holds it as 255.
        Check.fill(x, 0, 8, 255);
        Check.edge("-1 is no LOCK", x.judge(0), 1);
        Check.fill(x, 0, 8, 1, 0);
        Check.edge("1 is", x.judge(0), 0);
        Check.fill(x, 0, 8, 256 + 1, -256);
        Check.edge("so is 257 of 8 bits, and -256", x.judge(0), 0);
    }

    private static void sheet() {
        Check.sentence(39, "A sheet has n numbers, all 0, of 8, 16 or 32 bits; bits 0: it is MISSING: n (0 if it is MISSING).");
        ChainedChest x = Check.with(0, 0);
        for (int bits = 8; bits <= 32; bits *= 2) {
            Check.edge("none of " + bits, x.sheet(2, bits, 0), 0);
            Check.edge("it is there", x.judge(2), 0);
            Check.edge("no number 0", x.write(2, 0, 0), Check.BEYOND);
            Check.edge("one of " + bits, x.sheet(2, bits, 1), 1);
            Check.edge("40 of " + bits, x.sheet(2, bits, 40), 40);
            for (int i = 0; i < 40; i++) {
                x.write(2, i, 7);
            }
            Check.edge("anew", x.sheet(2, bits, 40), 40);
            // All 0: each number is LOCK 0, which is OFF behind the first; none is a TIME
            Check.edge("the first is 0", x.judge(2), 2);
            Check.edge("no TIME", x.load(2), 0);
            Check.edge("fewer", x.sheet(2, bits, 3), 3);
            Check.edge("no fourth", x.write(2, 3, 0), Check.BEYOND);
            x.write(2, 0, 5);
            x.write(2, 1, 5);
            Check.edge("more again", x.sheet(2, bits, 4), 4);
            Check.edge("all 0 again", x.load(2), 0);
        }
        for (int n : new int[] {0, 1, 40}) {
            x.sheet(2, 8, 3);
            Check.edge("bits 0, n " + n, x.sheet(2, 0, n), 0);
            Check.edge("MISSING", x.judge(2), Check.MISSING);
            Check.edge("MISSING once more", x.sheet(2, 0, n), 0);
        }
        Check.edge("an other one isn't touched", x.judge(1), Check.MISSING);
        Check.sentence(39, "BEYOND: no such sheet, other bits.");
        for (int s : NO_SHEETS) {
            Check.edge("sheet " + s, x.sheet(s, 8, 1), Check.BEYOND);
            Check.edge("sheet " + s + ", bits 0", x.sheet(s, 0, 0), Check.BEYOND);
        }
        for (int bits : new int[] {MIN, -8, -1, 1, 4, 7, 9, 15, 17, 24, 31, 33, 64, 256 + 8, MAX}) {
            Check.edge("bits " + bits, x.sheet(0, bits, 1), Check.BEYOND);
            Check.edge("bits " + bits + ", n -1", x.sheet(0, bits, -1), Check.BEYOND);
        }
    }

    private static void sheetSize() {
        Check.sentence(39, "SIZE: n is below 0 (also with bits 0). BEYOND: n is above 40 (also with bits 0).");
        ChainedChest x = Check.with(0);
        Check.fill(x, 1, 8, 9);
        for (int bits : new int[] {0, 8, 16, 32}) {
            for (int n : new int[] {MIN, -41, -1}) {
                Check.edge("bits " + bits + ", n " + n, x.sheet(1, bits, n), Check.SIZE);
            }
            for (int n : new int[] {41, 42, 80, MAX}) {
                Check.edge("bits " + bits + ", n " + n, x.sheet(1, bits, n), Check.BEYOND);
            }
            Check.edge("it stays", x.load(1), 1);
            Check.edge("its number stays", x.of(0, 1), 9);
        }
    }

    private static void write() {
        Check.sentence(40, "BEYOND: no such sheet. MISSING. BEYOND: no such number.");
        ChainedChest x = Check.with(0, 0);
        for (int s : NO_SHEETS) {
            Check.edge("sheet " + s, x.write(s, 0, 1), Check.BEYOND);
        }
        for (int s = 0; s < 4; s++) {
            Check.edge("MISSING, number 0", x.write(s, 0, 1), Check.MISSING);
            Check.edge("MISSING, number -1", x.write(s, -1, 1), Check.MISSING);
            Check.edge("MISSING, number 40", x.write(s, 40, 1), Check.MISSING);
        }
        for (int n = 0; n <= 40; n += 8) {
            x.sheet(0, 8, n);
            for (int i : new int[] {MIN, -1, n, n + 1, 40, 41, MAX}) {
                Check.edge("number " + i + " of " + n, x.write(0, i, 1), Check.BEYOND);
            }
            if (n > 0) {
                Check.edge("the last of " + n, x.write(0, n - 1, 1), 1);
            }
        }
    }

    private static void lowestBits() {
        Check.sentence(40, "Number i of a sheet becomes v (its lowest bits): 1.");
        // bits, v, the TIME that it is, 0 for none
        int[][] rows = {{8, 60, 60}, {8, 256 + 60, 60}, {8, -256 + 60, 60}, {8, 65536 + 1, 1}, {8, 128, 0}, {8, 255, 0},
            {8, MIN + 7, 7}, {8, MAX, 0}, {16, 60, 60}, {16, 256 + 60, 0}, {16, 65536 + 60, 60}, {16, -65536 + 60, 60},
            {16, 32768, 0}, {16, 65535, 0}, {16, MIN + 7, 7}, {32, 60, 60}, {32, 256 + 60, 0}, {32, 65536 + 60, 0},
            {32, MIN + 7, 0}, {32, MIN, 0}, {32, MAX, 0}, {32, -1, 0}};
        for (int[] row : rows) {
            ChainedChest x = Check.with(0);
            x.sheet(3, row[0], 1);
            Check.edge(row[1] + " of " + row[0] + " bits", x.write(3, 0, row[1]), 1);
            Check.edge("as a TIME", x.load(3), row[2] > 0 ? 1 : 0);
            Check.edge("what TIME", x.of(0, 1), row[2] > 0 ? row[2] : 10);
        }
        ChainedChest x = Check.with(0, 0, 0);
        Check.fill(x, 0, 8, 1, 2, 3);
        x.write(0, 1, 9);
        Check.edge("the others stay", x.load(0) == 3 ? x.of(0, 1) * 100 + x.of(1, 1) * 10 + x.of(2, 1) : -1, 193);
    }

    private static ChainedChest fives() {
        ChainedChest x = Check.with(0, 0, 0, 0, 0);
        Check.fill(x, 0, 8, 1, 2, 3, 4, 5);
        Check.fill(x, 1, 8, 6, 7, 8, 9, 10);
        return x;
    }

    /** The five numbers of a sheet, as one number to the base 100. */
    private static long numbers(ChainedChest x, int s) {
        long all = x.load(s) == 5 ? 0 : -1;
        for (int l = 0; l < 5; l++) {
            all = all * 100 + x.of(l, 1);
        }
        return all;
    }

    private static void copy() {
        Check.sentence(41, "n numbers of a sheet from one on come to another one from one on (as they all were): n.");
        ChainedChest x = fives();
        Check.edge("none", x.copy(0, 0, 1, 0, 0), 0);
        Check.edge("none behind the last", x.copy(0, 5, 1, 5, 0), 0);
        Check.edge("nothing came", numbers(x, 1), 607080910L);
        Check.edge("the last to the first", x.copy(0, 4, 1, 0, 1), 1);
        Check.edge("one came", numbers(x, 1), 507080910L);
        Check.edge("two", x.copy(0, 0, 1, 3, 2), 2);
        Check.edge("two came", numbers(x, 1), 507080102L);
        Check.edge("all", x.copy(1, 0, 0, 0, 5), 5);
        Check.edge("all came", numbers(x, 0), 507080102L);
        Check.edge("into itself, one on", x.copy(1, 0, 1, 1, 4), 4);
        Check.edge("as they were", numbers(x, 1), 505070801L);
        Check.edge("into itself, one back", x.copy(0, 1, 0, 0, 4), 4);
        Check.edge("as they were", numbers(x, 0), 708010202L);
        Check.edge("into itself, where it was", x.copy(0, 0, 0, 0, 5), 5);
        Check.edge("it stays", numbers(x, 0), 708010202L);
        x.sheet(2, 8, 0);
        x.sheet(3, 8, 40);
        Check.edge("none from none", x.copy(2, 0, 2, 0, 0), 0);
        Check.edge("40", x.copy(3, 0, 3, 0, 40), 40);
        Check.edge("20 and 20", x.copy(3, 20, 3, 0, 20), 20);
    }

    private static void copyBeyond() {
        Check.sentence(41, "BEYOND: one has not so many, or from, to or n is below 0.");
        int[][] rows = {{0, 0, 6}, {1, 0, 5}, {0, 1, 5}, {5, 0, 1}, {0, 5, 1}, {6, 0, 0}, {0, 6, 0}, {-1, 0, 1}, {0, -1, 1},
            {0, 0, -1}, {1, 1, -1}, {-1, 0, 0}, {0, -1, 0}, {MIN, 0, 0}, {0, MIN, 0}, {0, 0, MIN}, {MAX, 0, 0}, {0, MAX, 0},
            {0, 0, MAX}, {MAX, 0, 1}, {0, MAX, 1}, {1, 0, MAX}, {0, 1, MAX}, {MAX, MAX, MAX}, {MIN, MIN, MIN},
            {MAX, 0, MIN}, {-5, 0, 10}, {5, 5, -5}, {40, 0, 0}, {0, 40, 0}};
        ChainedChest x = fives();
        for (int[] row : rows) {
            Check.edge("from " + row[0] + " to " + row[1] + ", " + row[2], x.copy(0, row[0], 1, row[1], row[2]), Check.BEYOND);
            Check.edge("into itself", x.copy(0, row[0], 0, row[1], row[2]), Check.BEYOND);
        }
        Check.edge("nothing came", numbers(x, 0), 102030405L);
        Check.edge("nor there", numbers(x, 1), 607080910L);
        x.sheet(2, 8, 4);
        Check.edge("the second has not so many", x.copy(0, 0, 2, 0, 5), Check.BEYOND);
        Check.edge("nor the first", x.copy(2, 0, 0, 0, 5), Check.BEYOND);
        Check.edge("so many they have", x.copy(2, 0, 0, 0, 4), 4);
    }

    private static void copyKinds() {
        Check.sentence(41, "BEYOND: no such sheet (either). MISSING: one is. KIND: they are not of as many bits.");
        ChainedChest x = fives();
        for (int s : NO_SHEETS) {
            Check.edge("from sheet " + s, x.copy(s, 0, 0, 0, 1), Check.BEYOND);
            Check.edge("to sheet " + s, x.copy(0, 0, s, 0, 1), Check.BEYOND);
        }
        Check.edge("from a MISSING one", x.copy(2, 0, 0, 0, 1), Check.MISSING);
        Check.edge("to a MISSING one", x.copy(0, 0, 2, 0, 1), Check.MISSING);
        Check.edge("a MISSING one into itself", x.copy(2, 0, 2, 0, 0), Check.MISSING);
        for (int bits = 8; bits <= 32; bits *= 2) {
            x.sheet(2, bits, 5);
            for (int others = 8; others <= 32; others *= 2) {
                x.sheet(3, others, 5);
                Check.edge(bits + " to " + others, x.copy(2, 0, 3, 0, 5), bits == others ? 5 : Check.KIND);
                Check.edge(bits + " to " + others + ", none", x.copy(2, 0, 3, 0, 0), bits == others ? 0 : Check.KIND);
            }
        }
    }

    private static void load() {
        Check.sentence(42, "Numbers of a sheet, from its begin on, become TIMES of LOCKS 0, 1, ..: how many came.");
        ChainedChest x = Check.tenLocks();
        Check.fill(x, 0, 8, 1, 60, 2, 59, 3, 58, 4, 57, 5, 56);
        Check.edge("all ten", x.load(0), 10);
        int[] want = {1, 60, 2, 59, 3, 58, 4, 57, 5, 56};
        for (int l = 0; l < 10; l++) {
            Check.edge("TIME of " + l, x.of(l, 1), want[l]);
        }
        Check.sentence(42, "BEYOND: no such sheet. MISSING.");
        for (int s : NO_SHEETS) {
            Check.edge("sheet " + s, x.load(s), Check.BEYOND);
        }
        Check.edge("sheet 1", x.load(1), Check.MISSING);
        Check.edge("sheet 3", x.load(3), Check.MISSING);
    }

    private static void loadEnds() {
        Check.sentence(42, "It ends at the first that isn't 1 to 60, or for which there is no LOCK.");
        for (int v : new int[] {MIN, -1, 0, 61, 62, 1024, MAX}) {
            for (int place = 0; place < 3; place++) {
                ChainedChest x = Check.with(0, 0, 0);
                Check.fill(x, 0, 32, 7, 7, 7);
                x.write(0, place, v);
                Check.edge(v + " at " + place, x.load(0), place);
                for (int l = 0; l < 3; l++) {
                    Check.edge("TIME of " + l, x.of(l, 1), l < place ? 7 : 10);
                }
            }
        }
        for (int locks = 0; locks <= 10; locks++) {
            ChainedChest x = new ChainedChest();
            for (int l = 0; l < locks; l++) {
                x.lock(0);
            }
            x.sheet(0, 16, 40);
            for (int i = 0; i < 11; i++) {
                x.write(0, i, 9);
            }
            Check.edge(locks + " LOCKS", x.load(0), locks);
            Check.edge("all TIMES", x.count(4), 9 * locks);
            x.sheet(0, 16, 0);
            Check.edge("no numbers", x.load(0), 0);
        }
        ChainedChest x = Check.with(0, 0);
        x.off(1);
        Check.fill(x, 0, 8, 5, 6);
        Check.edge("one that is OFF, too", x.load(0), 2);
        Check.edge("its TIME", x.of(1, 1), 6);
    }

    private static void judge() {
        Check.sentence(43, "THE READER: numbers of a sheet are LOCKS of STEPS, one behind the other: 0 if each MAY then; "
            + "else 1 and the place of the first that may not.");
        ChainedChest x = Check.tenLocks();
        for (int l = 1; l < 10; l++) {
            x.change(l, 8, 1 << l - 1);
        }
        Check.fill(x, 0, 8, 0, 1, 2, 3, 4, 5, 6, 7, 8, 9);
        Check.edge("all ten", x.judge(0), 0);
        Check.fill(x, 0, 8, 0, 1, 2, 3, 4, 5, 6, 7, 8, 9, 0);
        Check.edge("an eleventh", x.judge(0), 11);
        for (int place = 0; place < 10; place++) {
            for (int v : new int[] {MIN, -1, 10, 32, 32 + place, MAX, place - 1, place + 1}) {
                Check.fill(x, 0, 32, 0, 1, 2, 3, 4, 5, 6, 7, 8, 9);
                x.write(0, place, v);
                Check.edge(v + " at " + place, x.judge(0), 1 + place);
            }
            if (place % 3 == 2) {
                x = again();
            }
        }
        Check.edge("no STEP was made", x.now(0) + x.now(2), 0);
        x.sheet(0, 8, 0);
        Check.edge("no numbers", x.judge(0), 0);
        x.sheet(0, 8, 40);
        Check.edge("LOCK 0 once, and again", x.judge(0), 2);
        x.off(0);
        Check.edge("it is OFF now", x.judge(0), 1);
        ChainedChest none = new ChainedChest();
        none.sheet(0, 8, 1);
        Check.edge("no LOCKS", none.judge(0), 1);
        Check.sentence(43, "BEYOND: no such sheet. MISSING.");
        for (int s : NO_SHEETS) {
            Check.edge("sheet " + s, x.judge(s), Check.BEYOND);
        }
        Check.edge("sheet 1", x.judge(1), Check.MISSING);
        Check.edge("sheet 3", x.judge(3), Check.MISSING);
    }

    /** An object is used for 512 calls at most. */
    private static ChainedChest again() {
        ChainedChest x = Check.tenLocks();
        for (int l = 1; l < 10; l++) {
            x.change(l, 8, 1 << l - 1);
        }
        return x;
    }
}
