/** Promises 12 to 19: ways out. */
final class WaysOutTest {
    private WaysOutTest() {
    }

    static void run() {
        alreadyOut();
        noWay();
        oneRow();
        choice();
        firstOfSeveral();
        heardInIt();
        counting();
        ten();
    }

    private static void alreadyOut() {
        ChainedChest x = Check.with(0, 0);
        Check.due(12, "OUT: soonest", x.soonest(), 0);
        Check.due(13, "OUT: no LOCKS in the row", x.ith(0), Check.NONE);
        Check.due(14, "OUT: quietest", x.quietest(), 0);
        Check.due(15, "OUT: fewest", x.fewest(), 0);
        Check.due(16, "OUT: CLOCK", x.ahead(0), 0);
        Check.due(16, "OUT: HEARD", x.ahead(1), 0);
        Check.due(17, "OUT: they can come off all the same", x.ever(), 3);
        Check.due(18, "OUT: states", x.states(), 4);
        Check.due(19, "OUT: the row without STEPS", x.rows(), 1);
        x.rule(2, 1);
        Check.due(13, "not OUT yet", x.ith(0), 0);
        x.off(0);
        Check.due(13, "OUT by a STEP: no row", x.ith(0), Check.NONE);
        Check.due(12, "OUT by a STEP", x.soonest(), 0);
        Check.due(16, "OUT by a STEP: CLOCK", x.ahead(0), 10);
        Check.due(17, "what is OFF can't come off", x.ever(), 2);
        Check.due(18, "states from here", x.states(), 2);
    }

    private static void noWay() {
        ChainedChest x = Check.with(0, 0);
        x.change(1, 3, 1);
        x.rule(2, 2);
        Check.due(12, "NONE", x.soonest(), Check.NONE);
        Check.due(13, "NONE", x.ith(0), Check.NONE);
        Check.due(13, "i -1", x.ith(-1), Check.BEYOND);
        Check.due(13, "i 10", x.ith(10), Check.BEYOND);
        Check.due(14, "NONE", x.quietest(), Check.NONE);
        Check.due(15, "NONE", x.fewest(), Check.NONE);
        Check.due(16, "NONE", x.ahead(0), Check.NONE);
        Check.due(16, "NONE of HEARD", x.ahead(1), Check.NONE);
        Check.due(16, "BEYOND ahead of NONE", x.ahead(2), Check.BEYOND);
        Check.due(16, "what -1", x.ahead(-1), Check.BEYOND);
        Check.due(17, "the other one can", x.ever(), 1);
        Check.due(18, "two states", x.states(), 2);
        Check.due(19, "no rows", x.rows(), 0);
        Check.due(48, "NONE told", x.status(3), 6);
        Check.due(48, "BEYOND told", x.status(0), 4);
    }

    private static void oneRow() {
        // 2 wants the slack of 0 and 1, and 1 is tied under 0.
        ChainedChest x = Check.with(0, 2, 5);
        x.change(0, 2, 4);
        x.change(1, 2, 3);
        x.change(1, 8, 1);
        x.change(2, 3, 7);
        x.rule(2, 4);
        Check.due(12, "10, 13 and a NAIL of 3 and 2", x.soonest(), 28);
        Check.due(13, "first", x.ith(0), 0);
        Check.due(13, "second", x.ith(1), 1);
        Check.due(13, "third", x.ith(2), 2);
        Check.due(13, "no fourth", x.ith(3), Check.NONE);
        Check.due(14, "2, 5, 4", x.quietest(), 11);
        Check.due(15, "three", x.fewest(), 3);
        Check.due(16, "CLOCK", x.ahead(0), 28);
        Check.due(19, "one row", x.rows(), 1);
        Check.due(18, "a row of states", x.states(), 4);
        Check.due(12, "nothing has changed", x.now(0) + x.now(2), 0);
    }

    private static void choice() {
        // The ROPE is quick by the slack of 1, but a row with 1 has a STEP more; RUSTED 2 gives as much, and is loud.
        ChainedChest x = Check.with(1, 0, 4);
        x.change(0, 1, 30);
        x.change(0, 3, 2);
        x.change(1, 2, 9);
        x.change(1, 1, 9);
        x.change(2, 2, 9);
        x.change(2, 1, 10);
        x.rule(2, 1);
        x.rule(1, 2);
        Check.due(15, "by itself", x.fewest(), 1);
        Check.due(14, "by itself it is silent", x.quietest(), 0);
        // by itself 28; behind 1: 9 and 19; behind 2: 9 and 19; behind both: 9, (13/2 and 4), 10 = 29, or 9, 9, 10 = 28
        Check.due(12, "soonest", x.soonest(), 28);
        Check.due(13, "the least row", x.ith(0), 0);
        x.change(1, 1, 8);
        Check.due(12, "1 is quicker", x.soonest(), 27);
        Check.due(13, "first 1", x.ith(0), 1);
        Check.due(13, "then 0", x.ith(1), 0);
        x.change(0, 3, 3);
        Check.due(15, "it wants slack", x.fewest(), 2);
        Check.due(14, "the LOCK's 2", x.quietest(), 2);
        x.change(1, 6, 1);
        Check.due(14, "RUSTED's 12", x.quietest(), 12);
    }

    private static void firstOfSeveral() {
        ChainedChest x = Check.with(0, 0, 0);
        x.rule(2, 7);
        Check.due(12, "three of 10", x.soonest(), 30);
        for (int i = 0; i < 3; i++) {
            Check.due(13, "the least row", x.ith(i), i);
        }
        // The CHAIN is quicker the earlier it goes: the row begins with it though its number is greatest.
        x.change(2, 0, 2);
        Check.due(13, "the CHAIN first", x.ith(0), 2);
        Check.due(13, "then 0", x.ith(1), 0);
        Check.due(13, "then 1", x.ith(2), 1);
        // An OLD one is halved and cut: 10 and 3, 6; two OFF, 8
        x.change(2, 0, 3);
        Check.due(12, "OLD first: 5", x.soonest(), 25);
        x.change(2, 1, 1);
        Check.due(13, "OLD of 1: 1 at least, or 2 behind one", x.ith(0), 2);
        x.change(2, 9, 0);
        x.change(1, 8, 5);
        Check.due(13, "0 waits for none", x.ith(0), 2);
        Check.due(13, "1 is last", x.ith(2), 1);
    }

    private static void heardInIt() {
        ChainedChest x = Check.with(0, 2, 5);
        x.rule(2, 7);
        x.change(0, 8, 2);
        x.change(2, 8, 1);
        // 1 at 0 (plays), 0 at 10 (plays), 2 at 20 (plays)
        Check.due(16, "it plays at each", x.ahead(1), 0);
        x.rule(3, 0);
        Check.due(16, "it never plays", x.ahead(1), 5 + 2 + 4);
        x.rule(3, 7);
        x.rule(4, 7);
        // at 0 it plays, at 10 it is still (7 to 13), at 20 (6 of the third turn) it plays
        Check.due(16, "still at 10", x.ahead(1), 2);
        x.off(1);
        Check.due(16, "from 10 on", x.ahead(1), 2);
        x.off(0);
        Check.due(16, "HEARD in the row alone", x.ahead(1), 0);
        Check.due(16, "CLOCK at its end", x.ahead(0), 32);
        Check.due(11, "HEARD till now", x.now(1), 2);
        // CHAIN 0 at 0, CHAIN 1 at 10 for 13, and BOLT 2 at 23
        ChainedChest y = Check.with(2, 2, 6);
        y.rule(2, 7);
        y.change(1, 8, 1);
        y.change(2, 8, 2);
        y.rule(3, 10);
        y.rule(4, 13);
        Check.due(16, "still at 10, plays at 23", y.ahead(1), 5);
        y.rule(3, 9);
        Check.due(16, "still at 10, plays at 22 to 30", y.ahead(1), 5);
        y.rule(3, 11);
        Check.due(16, "plays at 10, still at 23", y.ahead(1), 2);
        Check.due(16, "CLOCK", y.ahead(0), 33);
        // The LOCK gives 9: the NAIL takes 3 at 10, and the CHAIN goes at 13
        ChainedChest z = Check.with(0, 5, 2);
        z.rule(2, 7);
        z.change(0, 2, 9);
        z.change(1, 8, 1);
        z.change(2, 8, 2);
        z.rule(3, 13);
        z.rule(4, 1);
        Check.due(16, "still at 13 alone", z.ahead(1), 5);
        z.rule(3, 12);
        Check.due(16, "plays at 13 again", z.ahead(1), 0);
        Check.due(16, "CLOCK", z.ahead(0), 29);
    }

    private static void counting() {
        ChainedChest x = Check.with(0, 0, 0);
        x.rule(2, 1);
        // 0; 10; 20; 120; 210
        Check.due(18, "states behind OUT, too", x.states(), 8);
        Check.due(19, "no STEPS behind OUT", x.rows(), 5);
        x.change(0, 8, 2);
        // 10; 120; 210
        Check.due(18, "states", x.states(), 6);
        Check.due(19, "0 waits for 1", x.rows(), 3);
        x.change(1, 9, 4);
        // 10; 120
        Check.due(19, "1 goes while 2 is ON", x.rows(), 2);
        Check.due(18, "2 alone, and 1, 12, 01, 012", x.states(), 6);
        Check.due(17, "all can", x.ever(), 7);
        x.off(2);
        Check.due(17, "1 can't any more", x.ever(), 0);
        Check.due(18, "this one", x.states(), 1);
    }

    private static void ten() {
        ChainedChest x = Check.with(0, 0, 0, 0, 0, 0, 0, 0, 0, 0);
        x.rule(2, 1023);
        Check.due(19, "ten in all orders", x.rows(), 3628800);
        Check.due(18, "all sets", x.states(), 1024);
        Check.due(17, "all", x.ever(), 1023);
        Check.due(12, "soonest", x.soonest(), 100);
        Check.due(13, "the tenth", x.ith(9), 9);
        Check.due(15, "ten", x.fewest(), 10);
    }
}
