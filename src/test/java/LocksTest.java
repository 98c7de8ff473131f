/** Promises 1 to 9: locks, the man. */
final class LocksTest {
    private LocksTest() {
    }

    static void run() {
        newObject();
        lock();
        of();
        takesByKind();
        change();
        rule();
        on();
        shut();
        may();
        why();
    }

    private static void newObject() {
        ChainedChest x = new ChainedChest();
        Check.due(1, "CLOCK", x.now(0), 0);
        Check.due(1, "HEARD", x.now(1), 0);
        Check.due(1, "OFF", x.now(2), 0);
        Check.due(1, "SLACK", x.now(3), 0);
        Check.due(1, "FREE", x.now(4), 3);
        Check.due(1, "OUT: no GOAL", x.now(5), 1);
        Check.due(1, "THE BAND plays", x.now(6), 1);
        Check.due(1, "no LOCKS", x.count(1), 0);
        Check.due(1, "THE TAPE is empty", x.count(5), 0);
        Check.due(1, "z", x.count(6), 1);
        Check.due(1, "no SPOTS hold", x.count(7), 0);
        Check.due(1, "no findings", x.status(-1), 0);
        Check.due(1, "no image", x.tear(), 0);
        Check.due(1, "TOOLS", x.rule(0, 0), 0);
        Check.due(1, "SPARE", x.rule(1, 0), 0);
        Check.due(1, "GOAL", x.rule(2, 0), 0);
        Check.due(1, "MARCH", x.rule(3, 5), 5);
        Check.due(1, "STILL", x.rule(4, 5), 5);
        for (int s = 0; s < 4; s++) {
            Check.due(1, "sheet MISSING", x.load(s), Check.MISSING);
        }
    }

    private static void lock() {
        ChainedChest x = new ChainedChest();
        Check.due(2, "kind -1", x.lock(-1), Check.BEYOND);
        Check.due(2, "kind 7", x.lock(7), Check.BEYOND);
        for (int i = 0; i < 10; i++) {
            Check.due(2, "lock " + i, x.lock(i % 7), i);
            Check.due(2, "its kind", x.of(i, 0), i % 7);
        }
        Check.due(2, "the 11th", x.lock(0), Check.FULL);
        Check.due(2, "BEYOND ahead of FULL", x.lock(7), Check.BEYOND);
        Check.due(2, "still ten", x.count(1), 10);
    }

    private static void of() {
        ChainedChest x = Check.with(2);
        int[] first = {2, 10, 0, 0, 0, 1, 0, 0, 0, 0, 1, 10, 5};
        for (int what = 0; what < first.length; what++) {
            Check.due(3, "of(0, " + what + ") at first", x.of(0, what), first[what]);
        }
        Check.due(3, "what -1", x.of(0, -1), Check.BEYOND);
        Check.due(3, "what 13", x.of(0, 13), Check.BEYOND);
        Check.due(3, "lock -1", x.of(-1, 0), Check.BEYOND);
        Check.due(3, "lock 1", x.of(1, 0), Check.BEYOND);
        x.off(0);
        Check.due(3, "it is OFF", x.of(0, 10), 0);
        Check.due(3, "itself OFF counts for a CHAIN", x.of(0, 11), 13);
        Check.due(3, "findings", x.status(0), 4);
    }

    private static void takesByKind() {
        // kind, TIME, SPARE, what it TAKES with two LOCKS OFF and one HAND free, what it SOUNDS
        int[][] rows = {
            {0, 7, 3, 7, 2}, {1, 7, 3, 4, 0}, {1, 7, 7, 1, 0}, {1, 7, 40, 1, 0}, {1, 8, 7, 1, 0}, {1, 9, 7, 2, 0},
            {2, 7, 3, 13, 3}, {2, 1, 0, 7, 0}, {3, 7, 3, 6, 4}, {3, 60, 0, 33, 31}, {3, 1, 0, 3, 1},
            {4, 7, 3, 10, 8}, {4, 60, 0, 37, 62}, {5, 7, 3, 6, 4}, {5, 7, 9, 3, 4}, {6, 7, 3, 14, 2}};
        for (int[] row : rows) {
            ChainedChest x = Check.with(0, 0, row[0]);
            x.change(2, 1, row[1]);
            x.rule(1, row[2]);
            x.off(0);
            x.off(1);
            x.change(2, 4, 2);
            Check.due(3, "TAKES of kind " + row[0], x.of(2, 11), row[3]);
            Check.due(3, "SOUNDS of kind " + row[0], x.of(2, 12), row[4]);
        }
        ChainedChest x = Check.with(3, 4, 6);
        x.change(0, 1, 1);
        x.change(1, 1, 1);
        Check.due(3, "OLD: 1 at least", x.of(0, 11), 1);
        Check.due(3, "RUSTED: as OLD, and 4", x.of(1, 11), 5);
        Check.due(3, "BOLT with two HANDS", x.of(2, 11), 10);
        x.change(0, 4, 3);
        Check.due(3, "BOLT with none", x.of(2, 11), 20);
    }

    private static void change() {
        int[] least = {0, 1, 0, 0, 0, 0, 0, 0, 0, 0};
        int[] most = {6, 60, 9, 40, 3, 2, 4, 9, 7, 7};
        int[] first = {0, 10, 0, 0, 0, 1, 0, 0, 0, 0};
        ChainedChest x = Check.with(0, 0, 0);
        for (int what = 0; what < 10; what++) {
            Check.due(4, "most of " + what, x.change(1, what, most[what]), first[what]);
            Check.due(4, "above the most of " + what, x.change(1, what, most[what] + 1), Check.BEYOND);
            Check.due(4, "least of " + what, x.change(1, what, least[what]), most[what]);
            Check.due(4, "below the least of " + what, x.change(1, what, least[what] - 1), Check.BEYOND);
            Check.due(4, "it stays", x.of(1, what), least[what]);
            Check.due(4, "of another one", x.of(0, what), first[what]);
        }
        Check.due(4, "what 10", x.change(0, 10, 0), Check.BEYOND);
        Check.due(4, "what -1", x.change(0, -1, 0), Check.BEYOND);
        Check.due(4, "lock 3", x.change(3, 1, 1), Check.BEYOND);
        Check.due(4, "lock -1", x.change(-1, 1, 1), Check.BEYOND);
        Check.due(4, "findings", x.status(0), 24);
        ChainedChest ten = Check.with(0, 0, 0, 0, 0, 0, 0, 0, 0, 0);
        Check.due(4, "AFTER of all ten", ten.change(0, 8, 1023), 0);
        Check.due(4, "AFTER above ten", ten.change(0, 8, 1024), Check.BEYOND);
    }

    private static void rule() {
        int[] most = {15, 40, 3, 60, 60};
        int[] first = {0, 0, 0, 5, 5};
        ChainedChest x = Check.with(0, 0);
        for (int what = 0; what < 5; what++) {
            Check.due(5, "most of " + what, x.rule(what, most[what]), first[what]);
            Check.due(5, "above the most of " + what, x.rule(what, most[what] + 1), Check.BEYOND);
            Check.due(5, "below 0 of " + what, x.rule(what, -1), Check.BEYOND);
            Check.due(5, "0 of " + what, x.rule(what, 0), most[what]);
            Check.due(5, "it was 0", x.rule(what, first[what]), 0);
        }
        Check.due(5, "what 5", x.rule(5, 0), Check.BEYOND);
        Check.due(5, "what -1", x.rule(-1, 0), Check.BEYOND);
        Check.due(5, "findings", x.status(0), 12);
    }

    private static void on() {
        ChainedChest x = Check.with(0, 0);
        x.off(0);
        x.off(1);
        Check.due(6, "on again", x.on(0), 1);
        Check.due(6, "the other stays OFF", x.now(2), 2);
        Check.due(6, "it was", x.on(0), 0);
        Check.due(6, "CLOCK stays", x.now(0), 20);
        Check.due(6, "lock 2", x.on(2), Check.BEYOND);
        Check.due(6, "lock -1", x.on(-1), Check.BEYOND);
        Check.due(6, "findings", x.status(0), 2);
    }

    private static void shut() {
        ChainedChest x = Check.with(0, 0, 0);
        Check.due(7, "none was OFF", x.shut(), 0);
        x.rule(3, 0);
        x.off(0);
        x.off(2);
        Check.due(7, "HEARD ahead", x.now(1), 4);
        Check.due(7, "two were OFF", x.shut(), 2);
        Check.due(7, "all ON", x.now(2), 0);
        Check.due(7, "CLOCK", x.now(0), 0);
        Check.due(7, "HEARD", x.now(1), 0);
        Check.due(7, "rules stay", x.rule(3, 5), 0);
    }

    private static void may() {
        ChainedChest x = Check.with(0, 0, 0, 0, 0, 0);
        Check.due(8, "no LOCKS", new ChainedChest().may(), 0);
        x.change(0, 2, 5);
        x.change(1, 3, 5);
        x.change(2, 5, 2);
        x.change(3, 6, 3);
        x.change(4, 8, 9);
        x.change(5, 9, 33);
        Check.due(8, "at first", x.may(), 1 + 4 + 32);
        x.off(0);
        Check.due(8, "SLACK has come, WITH is gone", x.may(), 2 + 4);
        x.rule(0, 4);
        Check.due(8, "the TOOL", x.may(), 2 + 4 + 8);
        x.change(1, 4, 1);
        Check.due(8, "a HAND is bound", x.may(), 2 + 8);
        x.off(3);
        Check.due(8, "all of AFTER are OFF", x.may(), 2 + 16);
    }

    private static void why() {
        ChainedChest x = Check.with(0, 0);
        x.change(0, 3, 10);
        x.change(0, 5, 2);
        x.change(0, 6, 4);
        x.change(0, 8, 2);
        x.change(0, 9, 3);
        x.change(1, 4, 1);
        Check.due(9, "SLACK first", x.why(0), 2);
        x.rule(1, 9);
        Check.due(9, "SLACK is short by one", x.why(0), 2);
        x.rule(1, 10);
        Check.due(9, "then HANDS", x.why(0), 3);
        x.change(1, 4, 0);
        Check.due(9, "then the TOOL", x.why(0), 4);
        x.rule(0, 7);
        Check.due(9, "other TOOLS don't do", x.why(0), 4);
        x.rule(0, 8);
        Check.due(9, "then AFTER", x.why(0), 5);
        x.off(1);
        Check.due(9, "then WITH", x.why(0), 6);
        x.change(0, 9, 1);
        Check.due(9, "WITH but itself", x.why(0), 0);
        Check.due(9, "it is OFF", x.why(1), 1);
        x.change(0, 8, 1);
        Check.due(9, "AFTER itself never comes", x.why(0), 5);
        Check.due(9, "lock 2", x.why(2), Check.BEYOND);
        Check.due(9, "lock -1", x.why(-1), Check.BEYOND);
        Check.due(9, "findings", x.status(-1), 2);
    }
}
