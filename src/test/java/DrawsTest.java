/** Promises 32 and 33: draws. The first draws from z 1: 4310654, 9862832, 2589156, 12872603, 16337887, 9829236, 14279350, 10288046. */
final class DrawsTest {
    private DrawsTest() {
    }

    static void run() {
        findings();
        all();
        some();
        weak();
        stops();
        seed();
    }

    private static void findings() {
        ChainedChest x = new ChainedChest();
        Check.due(32, "n 0", x.friday(0), Check.BEYOND);
        Check.due(32, "n 21", x.friday(21), Check.BEYOND);
        Check.due(32, "no LOCKS", x.friday(1), Check.STATE);
        Check.due(32, "no LOCKS, 20", x.friday(20), Check.STATE);
        Check.due(32, "no draw", x.count(6), 1);
        Check.due(32, "BEYOND", x.status(0), 2);
        Check.due(32, "STATE", x.status(4), 2);
        x.lock(0);
        x.off(0);
        Check.due(32, "n -1", x.friday(-1), Check.BEYOND);
        Check.due(32, "nothing changes", x.now(2) + x.now(0), 11);
    }

    private static void all() {
        ChainedChest x = Check.with(0, 0, 2);
        x.rule(2, 7);
        // 2 of 012, 0 of 01, 1; behind each draw one for WEAK
        Check.due(32, "three", x.friday(20), 3);
        Check.due(32, "OUT", x.now(5), 1);
        Check.due(32, "CLOCK: the CHAIN was first", x.now(0), 30);
        Check.due(32, "six draws", x.count(6), -1778682749);
        Check.due(32, "HEARD: all as it played", x.now(1), 0);
        Check.due(32, "a Friday more begins anew", x.friday(1), 1);
        // 14279350 by three: 1
        Check.due(32, "1", x.now(2), 2);
        Check.due(32, "CLOCK anew", x.now(0), 10);
    }

    private static void some() {
        ChainedChest x = Check.with(0, 0, 0);
        x.rule(2, 7);
        x.rule(3, 0);
        Check.due(32, "as often as n tells", x.friday(2), 2);
        Check.due(32, "2 and 0", x.now(2), 5);
        Check.due(32, "four draws", x.count(6), -999580867);
        Check.due(32, "HEARD", x.now(1), 4);
    }

    private static void weak() {
        ChainedChest x = Check.with(0, 0, 0);
        x.rule(2, 7);
        x.change(2, 7, 2);
        Check.due(32, "2 is not below 2", x.friday(1), 1);
        x.seed(1);
        x.change(2, 7, 3);
        Check.due(32, "2 is below 3: it fails", x.friday(1), 0);
        Check.due(32, "no minutes", x.now(0), 0);
        Check.due(32, "two draws", x.count(6), -1770082073);
        x.seed(1);
        Check.due(32, "fails, 0, 2", x.friday(3), 2);
        Check.due(32, "0 and 2", x.now(2), 5);
        x.seed(1);
        Check.due(32, "fails, 0, 2, 1", x.friday(4), 3);
    }

    private static void stops() {
        ChainedChest x = Check.with(0, 0);
        x.change(0, 8, 1);
        x.change(1, 8, 2);
        x.rule(2, 1);
        Check.due(32, "none MAY", x.friday(20), 0);
        Check.due(32, "no draw", x.count(6), 1);
        x.rule(2, 0);
        x.change(0, 8, 0);
        Check.due(32, "OUT already", x.friday(20), 0);
        Check.due(32, "no draw", x.count(6), 1);
        x.rule(2, 2);
        Check.due(32, "then none MAY", x.friday(20), 1);
        Check.due(32, "two draws", x.count(6), -1770082073);
    }

    private static void seed() {
        ChainedChest x = Check.with(0);
        Check.due(33, "1 at first", x.seed(-1000001), 1);
        Check.due(33, "any int", x.seed(Integer.MIN_VALUE), -1000001);
        Check.due(33, "any int", x.seed(Integer.MAX_VALUE), Integer.MIN_VALUE);
        Check.due(33, "no finding", x.status(-1), 0);
        x.seed(-1000002);
        Check.due(33, "told by count", x.count(6), -1000002);
        Check.due(33, "no finding there", x.status(-1), 0);
    }
}
