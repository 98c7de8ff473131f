/** Promises 34 to 36: texts. */
final class TextsTest {
    private TextsTest() {
    }

    static void run() {
        feed();
        wipe();
        told();
        everyKind();
        blanksAndSigns();
        faultsOfTokens();
        faultsOfNumbers();
        faultsOfLocks();
        nothingChanges();
    }

    private static void feed() {
        ChainedChest x = new ChainedChest();
        Check.due(34, "n 0", x.feed(1, 0), Check.BEYOND);
        Check.due(34, "n 5", x.feed(1, 5), Check.BEYOND);
        Check.due(34, "n -1", x.feed(1, -1), Check.BEYOND);
        Check.due(34, "the lowest byte", x.feed(0x71717173, 1), 1);
        Check.due(34, "three", x.feed(0x71706172, 3), 4);
        Check.due(34, "two", x.feed(0x71716520, 2), 6);
        Check.due(34, "one", x.feed('7', 1), 7);
        Check.due(34, "spare 7", x.text(), 1);
        Check.due(34, "SPARE", x.now(3), 7);
        for (int i = 1; i <= 29; i++) {
            Check.due(34, "four by four", x.feed(0x20202020, 4), 4 * i);
        }
        Check.due(34, "three more", x.feed(0, 3), 119);
        Check.due(34, "two are too many", x.feed(0, 2), Check.FULL);
        Check.due(34, "the 120th", x.feed(0, 1), 120);
        Check.due(34, "FULL", x.feed(0, 1), Check.FULL);
        Check.due(34, "BEYOND ahead of FULL", x.feed(0, 5), Check.BEYOND);
        Check.due(34, "120 stay", x.count(5), 120);
        Check.due(34, "FULL told", x.status(1), 2);
    }

    private static void wipe() {
        ChainedChest x = new ChainedChest();
        Check.due(35, "it was empty", x.wipe(), 0);
        Check.feed(x, "lock time");
        Check.due(35, "nine", x.wipe(), 9);
        Check.due(35, "empty", x.count(5), 0);
        Check.due(35, "what comes then is all", Check.read(x, "lock"), 1);
    }

    private static void told() {
        ChainedChest x = Check.with(1);
        Check.due(36, "two ITEMS", Check.read(x, "nail time 60 gives 9 wants 40 binds 3 hands 2 after 1; chain hands 0 after 3"), 2);
        int[] nail = {5, 60, 9, 40, 3, 2, 0, 0, 1, 0, 1};
        int[] chain = {2, 10, 0, 0, 0, 0, 0, 0, 3, 0, 1};
        for (int what = 0; what < nail.length; what++) {
            Check.due(36, "NAIL, " + what, x.of(1, what), nail[what]);
            Check.due(36, "CHAIN, " + what, x.of(2, what), chain[what]);
        }
        Check.due(36, "rules", Check.read(x, "tools 15;spare 40;goal 7"), 3);
        Check.due(36, "TOOLS", x.rule(0, 0), 15);
        Check.due(36, "SPARE", x.rule(1, 0), 40);
        Check.due(36, "GOAL", x.rule(2, 0), 7);
        Check.due(36, "0 of each", Check.read(x, "tools 0;spare 0;goal 0"), 3);
        Check.due(36, "item by item", Check.read(x, "spare 3;spare 4;lock;goal 8;goal 12"), 5);
        Check.due(36, "the later SPARE", x.rule(1, 0), 4);
        Check.due(36, "the later GOAL", x.rule(2, 0), 12);
        Check.due(36, "THE TAPE is empty", x.count(5), 0);
        Check.due(36, "no finding", x.status(-1), 0);
    }

    private static void everyKind() {
        ChainedChest x = new ChainedChest();
        Check.due(36, "seven", Check.read(x, "lock;rope;chain;old;rusted;nail;bolt"), 7);
        for (int kind = 0; kind < 7; kind++) {
            Check.due(36, "kind " + kind, x.of(kind, 0), kind);
        }
    }

    private static void blanksAndSigns() {
        ChainedChest x = new ChainedChest();
        Check.due(36, "blanks", Check.read(x, "  lock  time   5 ;  rope gives 1  "), 2);
        Check.due(36, "no blanks", Check.read(x, "lock time5gives3wants0007;spare9"), 2);
        Check.due(36, "TIME", x.of(2, 1), 5);
        Check.due(36, "GIVES", x.of(2, 2), 3);
        Check.due(36, "WANTS", x.of(2, 3), 7);
        Check.due(36, "as long as can be", Check.read(x, "lock timegives 3"), -1 - 5);
        Check.due(36, "tokens break at blanks", Check.read(x, "lo ck"), -1);
    }

    private static void faultsOfTokens() {
        fault("", 0);
        fault("   ", 3);
        fault(";", 0);
        fault(" ;lock", 1);
        fault("5", 0);
        fault("door", 0);
        fault("lockx", 0);
        fault("lockz", 0);
        fault("alock", 0);
        fault("dock", 0);
        fault("lock zime 3", 5);
        fault("`lock", 0);
        fault("{", 0);
        fault("/", 0);
        fault(":", 0);
        fault("lock time 3:", 11);
        fault("lock time /", 10);
        fault("loc", 0);
        fault("Lock", 0);
        fault("time 3", 0);
        fault("lock;", 5);
        fault("lock; ", 6);
        fault("lock;;rope", 5);
        fault("lock rope", 5);
        fault("lock 3", 5);
        fault("lock time", 9);
        fault("lock time  ", 11);
        fault("lock time ;", 10);
        fault("lock time gives 3", 10);
        fault("lock time 3 4", 12);
        fault("lock time 3 time 4", 12);
        fault("lock gives 3 time 4", 13);
        fault("lock wants 3 gives 4", 13);
        fault("lock binds 3 wants 4", 13);
        fault("lock hands 1 binds 3", 13);
        fault("lock after 0 hands 1", 13);
        fault("lock tool 1", 5);
        fault("lock time 3,rope", 11);
        fault("lock\ttime 3", 4);
        fault("lock time -3", 10);
        fault("lock #", 5);
        fault("spare", 5);
        fault("spare x", 6);
        fault("spare 3 3", 8);
        fault("spare 3 lock", 8);
        fault("tools", 5);
        fault("goal;", 4);
        fault("lock;rope\377", 9);
    }

    private static void faultsOfNumbers() {
        fault("lock time 0", 10);
        fault("lock time 61", 10);
        fault("lock time 1024", 10);
        fault("lock time 4294967306", 10);
        fault("lock time 18446744073709551626", 10);
        fault("lock gives 10", 11);
        fault("lock wants 41", 11);
        fault("lock binds 4", 11);
        fault("lock hands 3", 11);
        fault("lock after 1", 11);
        fault("lock;rope after 2", 16);
        fault("lock;rope after 1024", 16);
        fault("tools 16", 6);
        fault("spare 41", 6);
        fault("goal 1", 5);
        fault("lock;goal 2;rope", 10);
        fault("goal 1024", 5);
        ChainedChest x = new ChainedChest();
        Check.due(36, "ten with AFTER and GOAL of all",
            Check.read(x, "lock;lock;lock;lock;lock;lock;lock;lock;lock;old after 511;goal 1023"), 11);
        Check.due(36, "AFTER of nine", x.of(9, 8), 511);
        Check.due(36, "GOAL of ten", x.rule(2, 0), 1023);
    }

    private static void faultsOfLocks() {
        ChainedChest x = Check.with(0, 0, 0, 0, 0, 0, 0, 0);
        Check.due(36, "the 11th: its own WORD", Check.read(x, "lock; rope; chain time 99"), -1 - 12);
        Check.due(36, "none has come", x.count(1), 8);
        Check.due(36, "two more", Check.read(x, "lock; rope"), 2);
        Check.due(36, "an 11th", Check.read(x, " bolt"), -1 - 1);
        Check.due(36, "rules still stand", Check.read(x, "goal 1023;tools 1"), 2);
    }

    private static void nothingChanges() {
        ChainedChest x = Check.with(2);
        x.rule(1, 5);
        Check.due(36, "a FAULT at the end", Check.read(x, "spare 9;lock time 9;goal 3;tools 99"), -1 - 33);
        Check.due(36, "THE TAPE is empty", x.count(5), 0);
        Check.due(36, "SPARE stays", x.rule(1, 5), 5);
        Check.due(36, "no new LOCK", x.count(1), 1);
        Check.due(36, "GOAL stays", x.rule(2, 0), 0);
        Check.due(36, "no finding", x.status(-1), 0);
    }

    private static void fault(String text, int place) {
        ChainedChest x = new ChainedChest();
        Check.due(36, "\"" + text + "\"", Check.read(x, text), -1 - place);
        Check.due(36, "\"" + text + "\" leaves no LOCK", x.count(1), 0);
        Check.due(36, "\"" + text + "\" leaves THE TAPE empty", x.count(5), 0);
        Check.due(36, "\"" + text + "\" is no finding", x.status(-1), 0);
    }
}
