/** Promises 44 to 48: images. */
final class ImagesTest {
    private ImagesTest() {
    }

    static void run() {
        imageAndUndo();
        fewerLocks();
        notKept();
        tear();
        count();
        status();
        undoTakesNoneBack();
    }

    private static void imageAndUndo() {
        ChainedChest x = Check.with(1, 2);
        x.off(1);
        x.rule(0, 3);
        x.rule(1, 4);
        x.rule(2, 1);
        x.rule(3, 0);
        x.rule(4, 7);
        x.seed(77);
        x.hold(4, 1);
        for (int what = 0; what < 10; what++) {
            x.change(0, what, 1);
        }
        Check.due(45, "nothing is kept", x.undo(), Check.NONE);
        Check.due(44, "kept", x.image(), 1);
        int[] was = new int[13];
        for (int what = 0; what < 13; what++) {
            was[what] = x.of(0, what);
        }
        for (int what = 0; what < 10; what++) {
            x.change(0, what, 2);
        }
        x.change(0, 8, 0);
        x.change(0, 5, 0);
        x.shut();
        x.off(0);
        x.lock(6);
        Check.due(45, "another CLOCK till then", x.now(0) == 10 ? 1 : 0, 0);
        Check.due(45, "others OFF till then", x.now(2), 1);
        for (int what = 0; what < 5; what++) {
            x.rule(what, 5);
        }
        x.seed(5);
        x.hold(4, -1);
        x.hold(5, 2);
        Check.due(45, "CLOCK", x.undo(), 10);
        for (int what = 0; what < 13; what++) {
            Check.due(45, "of(0, " + what + ")", x.of(0, what), was[what]);
        }
        Check.due(45, "OFF", x.now(2), 2);
        Check.due(45, "HEARD", x.now(1), 0);
        Check.due(45, "LOCKS", x.count(1), 2);
        Check.due(45, "TOOLS", x.rule(0, 9), 3);
        Check.due(45, "SPARE", x.rule(1, 9), 4);
        Check.due(45, "GOAL", x.rule(2, 2), 1);
        Check.due(45, "MARCH", x.rule(3, 9), 0);
        Check.due(45, "STILL", x.rule(4, 9), 7);
        Check.due(45, "z", x.seed(9), 77);
        Check.due(45, "SPOT 4", x.as(4, 2), 1);
        Check.due(45, "SPOTS", x.count(7), 1);
        Check.due(45, "it stays kept", x.undo(), 10);
        Check.due(45, "once more", x.rule(0, 0), 3);
        x.change(0, 8, 0);
        x.change(0, 9, 0);
        x.change(0, 6, 0);
        x.off(0);
        Check.due(44, "a later one", x.image(), 1);
        int clock = x.now(0);
        x.shut();
        Check.due(45, "the latest", x.undo(), clock);
        Check.due(45, "both OFF", x.now(2), 3);
    }

    private static void fewerLocks() {
        ChainedChest x = Check.with(0);
        x.image();
        x.lock(4);
        x.change(1, 1, 60);
        x.hold(0, 1);
        x.rule(2, 3);
        x.undo();
        Check.due(45, "the new LOCK is gone", x.of(1, 1), Check.BEYOND);
        Check.due(45, "what held it holds nothing", x.as(0, 0), Check.MISSING);
        Check.due(45, "GOAL", x.rule(2, 0), 0);
        Check.due(2, "its number again", x.lock(0), 1);
        Check.due(2, "all as at first", x.of(1, 1), 10);
    }

    private static void notKept() {
        ChainedChest x = Check.with(0);
        Check.feed(x, "spare 7");
        Check.fill(x, 0, 8, 44);
        x.image();
        x.wipe();
        Check.feed(x, "spare 8;spare 9");
        Check.fill(x, 0, 8, 55, 1);
        x.undo();
        Check.due(44, "THE TAPE isn't kept", x.text(), 2);
        Check.due(44, "nor SHEETS", x.load(0), 1);
        Check.due(44, "nor SHEETS", x.of(0, 1), 55);
    }

    private static void tear() {
        ChainedChest x = Check.with(0);
        Check.due(46, "nothing was", x.tear(), 0);
        x.image();
        Check.due(46, "something was", x.tear(), 1);
        Check.due(46, "nothing any more", x.tear(), 0);
        x.off(0);
        Check.due(46, "undo has nothing", x.undo(), Check.NONE);
        Check.due(46, "it stays as it is", x.now(2), 1);
    }

    private static void count() {
        ChainedChest x = Check.with(0, 0, 0);
        x.rule(3, 0);
        x.change(0, 1, 7);
        x.off(0);
        x.off(2);
        x.hold(0, 0);
        x.hold(7, 0);
        Check.feed(x, "lock;");
        int[] want = {17, 3, 2, 4, 27, 5, 1, 2};
        for (int what = 0; what < want.length; what++) {
            Check.due(47, "count(" + what + ")", x.count(what), want[what]);
        }
        Check.due(47, "what -1", x.count(-1), Check.BEYOND);
        Check.due(47, "what 8", x.count(8), Check.BEYOND);
        Check.due(47, "findings", x.status(0), 2);
    }

    private static void status() {
        ChainedChest x = new ChainedChest();
        for (int which = -1; which < 7; which++) {
            Check.due(48, "none yet", x.status(which), 0);
        }
        x.lock(7);
        for (int i = 0; i < 12; i++) {
            x.lock(1);
        }
        x.hold(0, 0);
        for (int i = 0; i < 3; i++) {
            x.as(0, 2);
        }
        for (int i = 0; i < 4; i++) {
            x.undo();
        }
        x.off(0);
        for (int i = 0; i < 5; i++) {
            x.off(0);
        }
        for (int i = 0; i < 6; i++) {
            x.judge(0);
        }
        for (int i = 0; i < 7; i++) {
            x.sheet(0, 8, -1);
        }
        for (int which = 0; which < 7; which++) {
            Check.due(48, "of finding " + which, x.status(which), which + 1);
        }
        Check.due(48, "all", x.status(-1), 28);
        Check.due(48, "which -2", x.status(-2), Check.BEYOND);
        Check.due(48, "counted from then on", x.status(0), 2);
        Check.due(48, "which 7", x.status(7), Check.BEYOND);
        Check.due(48, "counted, too", x.status(-1), 30);
        Check.due(48, "telling doesn't count", x.status(-1), 30);
    }

    private static void undoTakesNoneBack() {
        ChainedChest x = Check.with(0);
        x.image();
        x.lock(9);
        x.surest(9);
        x.undo();
        Check.due(48, "undo() takes none back", x.status(-1), 2);
        x.change(0, 6, 1);
        x.rule(2, 1);
        x.surest(0);
        Check.due(48, "a long's finding counts", x.status(3), 1);
    }
}
