/** Promises 10 and 11: steps. */
final class StepsTest {
    private StepsTest() {
    }

    static void run() {
        off();
        now();
        band();
    }

    private static void off() {
        ChainedChest x = Check.with(2, 0, 3);
        x.change(0, 1, 9);
        x.change(2, 8, 2);
        Check.due(10, "AFTER bars it", x.off(2), Check.STATE);
        Check.due(10, "a CHAIN", x.off(0), 9);
        Check.due(10, "it is OFF", x.off(0), Check.STATE);
        Check.due(10, "a LOCK", x.off(1), 10);
        Check.due(10, "OLD: half of 10 and 6", x.off(2), 8);
        Check.due(10, "CLOCK", x.now(0), 27);
        Check.due(10, "HEARD: at 0 it played, at 9 and 19 it was still", x.now(1), 2 + 6);
        Check.due(10, "lock 3", x.off(3), Check.BEYOND);
        Check.due(10, "lock -1", x.off(-1), Check.BEYOND);
        Check.due(10, "BEYOND", x.status(0), 2);
        Check.due(10, "STATE", x.status(4), 2);
    }

    private static void now() {
        ChainedChest x = Check.with(0, 0, 0);
        x.rule(1, 4);
        x.rule(2, 5);
        x.rule(3, 0);
        x.change(0, 2, 3);
        x.change(1, 2, 2);
        x.change(1, 4, 1);
        x.change(2, 4, 2);
        x.change(0, 5, 0);
        x.change(1, 5, 0);
        Check.due(11, "FREE: none", x.now(4), 0);
        Check.due(11, "not OUT", x.now(5), 0);
        x.off(0);
        Check.due(11, "CLOCK", x.now(0), 10);
        Check.due(11, "HEARD", x.now(1), 2);
        Check.due(11, "OFF", x.now(2), 1);
        Check.due(11, "SLACK", x.now(3), 7);
        x.off(1);
        Check.due(11, "SLACK of two", x.now(3), 9);
        Check.due(11, "FREE: HAND 0", x.now(4), 1);
        Check.due(11, "not OUT yet", x.now(5), 0);
        x.off(2);
        Check.due(11, "OUT", x.now(5), 1);
        Check.due(11, "what -1", x.now(-1), Check.BEYOND);
        Check.due(11, "what 7", x.now(7), Check.BEYOND);
        Check.due(11, "findings", x.status(0), 2);
    }

    private static void band() {
        ChainedChest x = Check.with(0);
        x.change(0, 1, 1);
        x.rule(3, 2);
        x.rule(4, 3);
        int[] plays = {1, 1, 0, 0, 0, 1, 1, 0, 0, 0, 1};
        int heard = 0;
        for (int minute = 0; minute < plays.length; minute++) {
            Check.due(11, "plays at " + minute, x.now(6), plays[minute]);
            heard += plays[minute] == 1 ? 0 : 2;
            x.off(0);
            x.on(0);
            Check.due(10, "HEARD behind " + minute, x.now(1), heard);
        }
        x.rule(3, 0);
        Check.due(11, "no MARCH", x.now(6), 0);
        x.rule(4, 0);
        Check.due(11, "both are 0: never", x.now(6), 0);
        x.rule(3, 1);
        Check.due(11, "never STILL", x.now(6), 1);
    }
}
