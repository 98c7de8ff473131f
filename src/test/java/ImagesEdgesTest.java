/** Promises 44 to 48, sentence by sentence: images, counts. */
final class ImagesEdgesTest {
    private ImagesEdgesTest() {
    }

    static void run() {
        image();
        tapeAndSheets();
        undo();
        undoOfMore();
        tear();
        count();
        status();
        statusBeyond();
        takesNoneBack();
    }

    private static ChainedChest rich() {
        ChainedChest x = Check.with(1, 4, 6);
        Check.read(x, "tools 5;spare 3;goal 5");
        for (int l = 0; l < 3; l++) {
            for (int what = 1; what < 10; what++) {
                x.change(l, what, l == 1 ? 0 : what / 3);
            }
        }
        x.rule(3, 7);
        x.rule(4, 8);
        x.seed(99);
        x.hold(0, 2);
        x.hold(9, 1);
        x.off(1);
        return x;
    }

    private static void image() {
        Check.sentence(44, "All but THE TAPE and SHEETS is kept: 1.");
        ChainedChest x = rich();
        Check.edge("one is OFF", x.now(2), 2);
        Check.edge("kept", x.image(), 1);
        String was = Dump.of(x);
        for (int l = 0; l < 3; l++) {
            for (int what = 0; what < 10; what++) {
                x.change(l, what, 2);
            }
        }
        for (int what = 0; what < 5; what++) {
            x.rule(what, 1);
        }
        for (int spot = 0; spot < 10; spot++) {
            x.hold(spot, 0);
        }
        x.lock(3);
        x.seed(5);
        x.shut();
        Check.edge("all else", Dump.of(x).equals(was) ? 1 : 0, 0);
        Check.edge("CLOCK", x.undo(), 9);
        Check.edge("all as it was", Dump.of(x).equals(was) ? 1 : 0, 1);
        Check.edge("with no LOCKS, too", new ChainedChest().image(), 1);
    }

    private static void tapeAndSheets() {
        Check.sentence(44, "All but THE TAPE and SHEETS");
        ChainedChest x = Check.with(0);
        Check.feed(x, "spare 1");
        x.sheet(0, 8, 1);
        x.sheet(1, 8, 1);
        x.image();
        Check.feed(x, "2");
        x.write(0, 0, 44);
        x.sheet(1, 0, 0);
        x.sheet(2, 16, 0);
        x.undo();
        Check.edge("THE TAPE stays as it is", x.count(5), 8);
        Check.edge("a SHEET's number", x.load(0) * 100 + x.of(0, 1), 144);
        Check.edge("a MISSING one", x.judge(1), Check.MISSING);
        Check.edge("a new one", x.judge(2), 0);
        Check.edge("the TEXT", x.text(), 1);
        Check.edge("SPARE by it", x.now(3), 12);
        x.undo();
        Check.edge("THE TAPE stays empty", x.count(5), 0);
        Check.edge("SPARE as it was kept", x.now(3), 0);
    }

    private static void undo() {
        Check.sentence(45, "It becomes what was kept latest (which stays): CLOCK.");
        ChainedChest x = Check.with(0, 0, 0);
        x.image();
        Check.edge("CLOCK 0", x.undo(), 0);
        x.off(0);
        x.image();
        x.off(1);
        x.off(2);
        Check.edge("the latest", x.undo(), 10);
        Check.edge("OFF then", x.now(2), 1);
        x.off(2);
        Check.edge("it stays", x.undo(), 10);
        Check.edge("OFF then", x.now(2), 1);
        Check.edge("twice without a change", x.undo(), 10);
        x.off(1);
        x.image();
        x.shut();
        Check.edge("a later one", x.undo(), 20);
        Check.edge("OFF then", x.now(2), 3);
        Check.sentence(45, "NONE: nothing is kept.");
        Check.edge("of a new object", new ChainedChest().undo(), Check.NONE);
        x.tear();
        Check.edge("torn", x.undo(), Check.NONE);
        Check.edge("it is as it was", x.now(2), 3);
        x.image();
        Check.edge("kept again", x.undo(), 20);
    }

    private static void undoOfMore() {
        Check.sentence(45, "It becomes what was kept latest");
        ChainedChest x = new ChainedChest();
        x.image();
        for (int l = 0; l < 10; l++) {
            x.lock(3);
            x.change(l, 1, 60);
            x.change(l, 8, (1 << l) - 1);
            x.hold(l, l);
        }
        x.rule(2, 1023);
        Check.edge("CLOCK", x.undo(), 0);
        Check.edge("no LOCKS", x.count(1), 0);
        Check.edge("no SPOTS", x.count(7), 0);
        Check.edge("no GOAL", x.rule(2, 0), 0);
        Check.edge("lock 0", x.of(0, 0), Check.BEYOND);
        for (int l = 0; l < 10; l++) {
            Check.edge("its number again", x.lock(0), l);
            Check.edge("TIME at first", x.of(l, 1), 10);
            Check.edge("AFTER at first", x.of(l, 8), 0);
        }
        x.image();
        x.undo();
        Check.edge("ten", x.count(1), 10);
        Check.edge("FULL", x.lock(0), Check.FULL);
    }

    private static void tear() {
        Check.sentence(46, "Nothing is kept: 1 if something was, else 0.");
        ChainedChest x = Check.with(0);
        Check.edge("nothing was", x.tear(), 0);
        x.image();
        x.image();
        x.off(0);
        Check.edge("something was", x.tear(), 1);
        Check.edge("nothing more", x.tear(), 0);
        Check.edge("it is as it was", x.now(0), 10);
    }

    private static void count() {
        Check.sentence(47, "0 CLOCK, 1 LOCKS, 2 how many are OFF, 3 HEARD, 4 TIMES of all together, 5 bytes of THE TAPE, 6 z, 7 SPOTS that hold something.");
        ChainedChest x = Check.tenLocks();
        x.rule(3, 0);
        for (int l = 0; l < 10; l++) {
            x.change(l, 1, 60);
            x.off(l);
            x.hold(l, l);
        }
        for (int i = 0; i < 30; i++) {
            x.feed(0, 4);
        }
        x.seed(Integer.MIN_VALUE);
        int[] most = {600, 10, 10, 20, 600, 120, Integer.MIN_VALUE, 10};
        int[] least = {0, 0, 0, 0, 0, 0, 1, 0};
        ChainedChest none = new ChainedChest();
        for (int what = 0; what < 8; what++) {
            Check.edge("count(" + what + ")", x.count(what), most[what]);
            Check.edge("count(" + what + ") of none", none.count(what), least[what]);
        }
        x.on(3);
        Check.edge("TIMES of those that are ON, too", x.count(4), 600);
        Check.edge("OFF", x.count(2), 9);
        Check.sentence(47, "BEYOND: another what.");
        for (int what : new int[] {Integer.MIN_VALUE, -1, 8, 9, 100, Integer.MAX_VALUE}) {
            Check.edge("what " + what, x.count(what), Check.BEYOND);
        }
    }

    private static void status() {
        Check.sentence(48, "How many acts answered a finding ever (undo() takes none back): which -1: all, 0 to 6: BEYOND to SIZE.");
        ChainedChest x = new ChainedChest();
        for (int which = -1; which < 7; which++) {
            Check.edge("none of " + which, x.status(which), 0);
        }
        Check.edge("a FAULT", x.text(), -1);
        x.seed(-1000004);
        x.seed(1);
        Check.edge("is none, nor what seed() tells", x.status(-1), 0);
        for (int i = 1; i <= 50; i++) {
            x.off(0);
            Check.edge("BEYOND", x.status(0), i);
            x.undo();
            Check.edge("NONE", x.status(3), i);
            Check.edge("all", x.status(-1), 2 * i);
        }
    }

    private static void statusBeyond() {
        Check.sentence(48, "BEYOND (counted from then on): another one.");
        ChainedChest x = new ChainedChest();
        int asked = 0;
        for (int which : new int[] {Integer.MIN_VALUE, -1000001, -2, 7, 8, 100, Integer.MAX_VALUE}) {
            Check.edge("which " + which, x.status(which), Check.BEYOND);
            asked++;
            Check.edge("counted", x.status(0), asked);
            Check.edge("counted with all", x.status(-1), asked);
        }
    }

    private static void takesNoneBack() {
        Check.sentence(48, "(undo() takes none back)");
        ChainedChest x = Check.with(0);
        x.load(0);
        x.image();
        x.load(0);
        x.load(0);
        x.undo();
        Check.edge("MISSING", x.status(5), 3);
        x.tear();
        x.undo();
        Check.edge("MISSING", x.status(5), 3);
        Check.edge("NONE by undo() itself", x.status(3), 1);
        x.friday(1);
        x.shut();
        x.wipe();
        Check.edge("nor does another act", x.status(-1), 4);
    }
}
