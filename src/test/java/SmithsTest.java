/** Promises 20 to 27: what he needs, what smiths should do. */
final class SmithsTest {
    private SmithsTest() {
    }

    static void run() {
        tools();
        fewerTools();
        spare();
        wire();
        kindFor();
        link();
        linkOfNone();
        spared();
        surest();
    }

    private static void tools() {
        ChainedChest x = Check.with(0, 0, 0);
        Check.due(20, "OUT", x.tools(), 0);
        x.rule(2, 1);
        Check.due(20, "none is asked for", x.tools(), 0);
        x.change(0, 6, 3);
        Check.due(20, "the third", x.tools(), 4);
        x.change(0, 8, 6);
        x.change(1, 6, 1);
        x.change(2, 6, 4);
        Check.due(20, "three", x.tools(), 1 + 4 + 8);
        x.rule(0, 15);
        Check.due(20, "whatever he has", x.tools(), 13);
        Check.due(20, "his TOOLS stay", x.rule(0, 15), 15);
        // slack from 1 or from 2 does: the least of sets of two
        x.change(0, 8, 0);
        x.change(0, 3, 5);
        x.change(1, 2, 5);
        x.change(2, 2, 5);
        Check.due(20, "1 with 3, not 4 with 3", x.tools(), 5);
        x.change(1, 6, 4);
        x.change(2, 6, 2);
        Check.due(20, "2 and 3", x.tools(), 6);
        x.change(2, 6, 3);
        Check.due(20, "one does both", x.tools(), 4);
        x.change(0, 3, 40);
        Check.due(20, "NONE", x.tools(), Check.NONE);
        Check.due(20, "his TOOLS stay then, too", x.rule(0, 15), 15);
    }

    private static void fewerTools() {
        // 1 and 2 (the set 3) would give the slack, and so would 3 alone (the set 4)
        ChainedChest x = Check.with(0, 0, 0, 0);
        x.rule(2, 1);
        x.change(0, 3, 5);
        for (int l = 1; l < 4; l++) {
            x.change(l, 2, l < 3 ? 3 : 9);
            x.change(l, 6, l);
        }
        Check.due(20, "one TOOL, not the least set", x.tools(), 4);
        x.change(3, 2, 1);
        Check.due(20, "two now", x.tools(), 3);
    }

    private static void spare() {
        ChainedChest x = Check.with(0, 0);
        Check.due(21, "OUT", x.spare(), 0);
        x.rule(2, 1);
        Check.due(21, "none", x.spare(), 0);
        x.change(0, 3, 40);
        Check.due(21, "40", x.spare(), 40);
        x.change(1, 2, 9);
        Check.due(21, "31 by the other's 9", x.spare(), 31);
        x.change(1, 3, 35);
        Check.due(21, "35 for the other", x.spare(), 35);
        x.rule(1, 7);
        Check.due(21, "whatever he has", x.spare(), 35);
        Check.due(21, "his SPARE stays", x.rule(1, 7), 7);
        x.change(0, 5, 2);
        x.change(0, 4, 1);
        Check.due(21, "NONE: it binds what it wants", x.spare(), Check.NONE);
        Check.due(21, "his SPARE stays then, too", x.rule(1, 7), 7);
    }

    private static void wire() {
        ChainedChest x = Check.with(0, 0, 0);
        x.rule(2, 7);
        Check.due(22, "of several the least", x.wire(), 0);
        x.change(2, 1, 11);
        Check.due(22, "the longest", x.wire(), 2);
        x.change(1, 4, 3);
        x.change(1, 5, 0);
        x.change(1, 3, 1);
        Check.due(22, "only without 1 is there one", x.wire(), 1);
        x.change(0, 3, 2);
        Check.due(22, "NONE by any", x.wire(), Check.NONE);
        x.change(0, 3, 0);
        Check.due(22, "nothing came OFF", x.now(2), 0);
        ChainedChest y = Check.with(0, 0);
        y.off(0);
        Check.due(22, "OUT: the least that is ON", y.wire(), 1);
        y.off(1);
        Check.due(22, "none is ON", y.wire(), Check.NONE);
    }

    private static void kindFor() {
        ChainedChest x = Check.with(0, 0);
        Check.due(23, "OUT: the least", x.kindFor(1), 0);
        x.rule(2, 1);
        Check.due(23, "OLD: half", x.kindFor(0), 3);
        x.rule(1, 5);
        Check.due(23, "ROPE of 5, as OLD, is less", x.kindFor(0), 1);
        x.rule(1, 4);
        Check.due(23, "OLD of 5, ROPE of 6", x.kindFor(0), 3);
        Check.due(23, "one that isn't asked for", x.kindFor(1), 0);
        Check.due(23, "its KIND stays", x.of(0, 0), 0);
        x.change(0, 1, 1);
        Check.due(23, "LOCK of 1 as ROPE and OLD of 1", x.kindFor(0), 0);
        x.change(0, 6, 1);
        Check.due(23, "NONE", x.kindFor(0), Check.NONE);
        Check.due(23, "lock 2", x.kindFor(2), Check.BEYOND);
        Check.due(23, "lock -1", x.kindFor(-1), Check.BEYOND);
        x.rule(0, 1);
        x.off(0);
        x.rule(2, 3);
        Check.due(23, "one that is OFF: all do as much", x.kindFor(0), 0);
    }

    private static void link() {
        ChainedChest x = Check.with(0, 0, 0);
        x.rule(2, 1);
        x.change(1, 1, 20);
        x.change(2, 1, 30);
        Check.due(24, "0 behind 2", x.link(), 2);
        Check.due(25, "10 and 30", x.linked(), 40);
        x.change(2, 8, 1);
        // 0 behind 2 would leave no WAY OUT; so 0 behind 1
        Check.due(24, "0 behind 1", x.link(), 1);
        Check.due(25, "10 and 20", x.linked(), 30);
        x.change(0, 8, 2);
        Check.due(24, "that stands already: 2 behind 1, no other is no ring", x.link(), 21);
        Check.due(25, "as it is", x.linked(), 30);
        Check.due(24, "AFTER stays", x.of(0, 8), 2);
        x.off(1);
        Check.due(24, "1 is OFF: a link to it bars nothing", x.link(), 10);
        Check.due(25, "10", x.linked(), 10);
        // Behind a CHAIN the order tells: 1 behind 0 makes it longer by 3 minutes.
        ChainedChest y = Check.with(0, 2);
        y.rule(2, 3);
        Check.due(24, "CHAIN behind LOCK", y.link(), 10);
        Check.due(25, "10 and 13", y.linked(), 23);
        y.rule(2, 0);
        Check.due(24, "OUT: the least pair", y.link(), 1);
        Check.due(25, "OUT", y.linked(), 0);
    }

    private static void linkOfNone() {
        ChainedChest z = Check.with(0, 0);
        z.rule(2, 1);
        Check.due(25, "linked() by itself", z.linked(), 20);
        Check.due(24, "0 behind 1", z.link(), 1);
        z.change(0, 6, 1);
        Check.due(24, "no more", z.link(), Check.NONE);
        z.change(0, 6, 0);
        Check.due(24, "again", z.link(), 1);
        z.change(0, 6, 1);
        Check.due(25, "no more", z.linked(), Check.NONE);
        ChainedChest x = Check.with(0);
        Check.due(24, "no two", x.link(), Check.NONE);
        Check.due(25, "no two", x.linked(), Check.NONE);
        x.lock(0);
        x.rule(2, 3);
        x.change(0, 8, 2);
        Check.due(24, "1 behind 0 would be a ring", x.link(), Check.NONE);
        Check.due(25, "likewise", x.linked(), Check.NONE);
        x.change(1, 8, 1);
        x.rule(2, 0);
        Check.due(24, "all are linked already", x.link(), Check.NONE);
        Check.due(25, "though he is OUT", x.linked(), Check.NONE);
    }

    private static void spared() {
        ChainedChest x = Check.with(0, 0, 0);
        Check.due(26, "GOAL is empty", x.spared(), Check.NONE);
        x.rule(2, 7);
        Check.due(26, "of several the least", x.spared(), 0);
        x.change(1, 1, 12);
        Check.due(26, "the longest", x.spared(), 1);
        x.rule(2, 5);
        Check.due(26, "only one of GOAL", x.spared(), 0);
        x.change(2, 6, 1);
        Check.due(26, "the one that can't", x.spared(), 2);
        x.change(0, 6, 1);
        Check.due(26, "NONE by any", x.spared(), Check.NONE);
        Check.due(26, "GOAL stays", x.rule(2, 5), 5);
        x.rule(2, 4);
        Check.due(26, "nothing is left: OUT", x.spared(), 2);
    }

    private static void surest() {
        ChainedChest x = Check.with(0, 0, 0);
        Check.due(27, "OUT", x.surest(0), 1);
        Check.due(27, "OUT", x.surest(1), 1);
        x.rule(2, 1);
        x.change(0, 7, 4);
        Check.due(27, "six tenths", x.surest(0), 3);
        Check.due(27, "six tenths", x.surest(1), 5);
        x.change(0, 3, 1);
        x.change(1, 2, 1);
        x.change(2, 2, 1);
        x.change(1, 7, 5);
        x.change(2, 7, 3);
        Check.due(27, "by 2: 6/10 of 7/10", x.surest(0), 21);
        Check.due(27, "below", x.surest(1), 50);
        x.change(2, 6, 1);
        Check.due(27, "by 1: 6/10 of 5/10", x.surest(0), 3);
        Check.due(27, "below", x.surest(1), 10);
        x.change(1, 6, 1);
        Check.due(27, "NONE", x.surest(0), Check.NONE);
        Check.due(27, "NONE", x.surest(1), Check.NONE);
        Check.due(27, "what 2", x.surest(2), Check.BEYOND);
        Check.due(27, "what -1", x.surest(-1), Check.BEYOND);
        ChainedChest y = Check.with(0, 0, 0, 0, 0, 0, 0, 0, 0, 0);
        y.rule(2, 1023);
        for (int l = 0; l < 10; l++) {
            y.change(l, 7, 9);
        }
        Check.due(27, "ten by one tenth", y.surest(0), 1);
        Check.due(27, "ten by one tenth", y.surest(1), 10000000000L);
        for (int l = 0; l < 10; l++) {
            y.change(l, 7, 1);
        }
        Check.due(27, "ten by nine tenths", y.surest(0), 3486784401L);
        Check.due(27, "ten by nine tenths", y.surest(1), 10000000000L);
    }
}
