/** The Terms, sentence by sentence: findings, LOCKS, the man, the band. What stands on both sides of each bound they name. */
final class TermsEdgesTest {
    private static final int MIN = Integer.MIN_VALUE;
    private static final int MAX = Integer.MAX_VALUE;

    private TermsEdgesTest() {
    }

    static void run() {
        findings();
        anyInt();
        orderOfFindings();
        orderOnSheets();
        cut();
        leastOfSeveral();
        tenLocks();
        kinds();
        traits();
        sets();
        rules();
        slack();
        free();
        wants();
        hands();
        tool();
        afterAndWith();
        takesOfRopes();
        takesOfChains();
        takesOfLocks();
        sounds();
        aheadOfTheStep();
        out();
        band();
        heard();
        wayOut();
        draws();
    }

    private static void findings() {
        Check.sentence(0, "LOW is -1000001; LOW BEYOND, LOW - 1 FULL, LOW - 2 KIND, LOW - 3 NONE, LOW - 4 STATE, "
            + "LOW - 5 MISSING, LOW - 6 SIZE (in longs, too).");
        ChainedChest x = Check.tenLocks();
        x.hold(0, 0);
        x.off(0);
        Check.edge("BEYOND", x.lock(7), -1000001);
        Check.edge("FULL", x.lock(0), -1000002);
        Check.edge("KIND", x.as(0, 1), -1000003);
        Check.edge("NONE", x.undo(), -1000004);
        Check.edge("STATE", x.off(0), -1000005);
        Check.edge("MISSING", x.load(0), -1000006);
        Check.edge("SIZE", x.sheet(0, 8, -1), -1000007);
        for (int which = 0; which < 7; which++) {
            Check.edge("told as " + which, x.status(which), 1);
        }
        Check.edge("BEYOND in longs", x.surest(2), -1000001L);
        x.change(1, 3, 1);
        x.rule(2, 2);
        Check.edge("NONE in longs", x.surest(1), -1000004L);
    }

    private static void anyInt() {
        Check.sentence(0, "What seed() and count(6) tell, z, may be any int: that is no finding.");
        ChainedChest x = new ChainedChest();
        int was = 1;
        for (int z : new int[] {MIN, -1000001, -1000002, -1000003, -1000004, -1000005, -1000006, -1000007, -1, 0, MAX}) {
            Check.edge("seed() tells " + was, x.seed(z), was);
            Check.edge("count(6) tells " + z, x.count(6), z);
            was = z;
        }
        Check.edge("no finding", x.status(-1), 0);
    }

    private static void orderOfFindings() {
        Check.sentence(0, "Each act tells its findings in the order in which they are asked (that of its words)");
        ChainedChest none = new ChainedChest();
        Check.edge("friday(): BEYOND ahead of STATE", none.friday(0), Check.BEYOND);
        Check.edge("friday(): STATE then", none.friday(1), Check.STATE);
        ChainedChest x = Check.tenLocks();
        Check.edge("lock(): BEYOND ahead of FULL", x.lock(7), Check.BEYOND);
        Check.edge("lock(): FULL then", x.lock(6), Check.FULL);
        x.change(9, 3, 1);
        x.rule(2, 512);
        Check.edge("ith(): BEYOND ahead of NONE", x.ith(10), Check.BEYOND);
        Check.edge("ith(): NONE then", x.ith(9), Check.NONE);
        Check.edge("ahead(): BEYOND ahead of NONE", x.ahead(2), Check.BEYOND);
        Check.edge("ahead(): NONE then", x.ahead(1), Check.NONE);
        Check.edge("kindFor(): BEYOND ahead of NONE", x.kindFor(10), Check.BEYOND);
        Check.edge("kindFor(): NONE then", x.kindFor(9), Check.NONE);
        Check.edge("surest(): BEYOND ahead of NONE", x.surest(2), Check.BEYOND);
        Check.edge("surest(): NONE then", x.surest(1), Check.NONE);
        Check.edge("as(): BEYOND of the SPOT ahead of MISSING", x.as(10, 0), Check.BEYOND);
        Check.edge("as(): BEYOND of the kind ahead of MISSING", x.as(0, 7), Check.BEYOND);
        Check.edge("as(): MISSING then", x.as(0, 6), Check.MISSING);
        x.hold(0, 0);
        Check.edge("as(): BEYOND ahead of KIND", x.as(0, 7), Check.BEYOND);
        Check.edge("as(): KIND then", x.as(0, 6), Check.KIND);
        for (int i = 0; i < 30; i++) {
            x.feed(0, 4);
        }
        Check.edge("feed(): BEYOND ahead of FULL", x.feed(0, 5), Check.BEYOND);
        Check.edge("feed(): FULL then", x.feed(0, 4), Check.FULL);
    }

    private static void orderOnSheets() {
        Check.sentence(0, "(that of its words)");
        ChainedChest x = Check.with(0);
        Check.edge("sheet(): no such sheet ahead of SIZE", x.sheet(4, 8, -1), Check.BEYOND);
        Check.edge("sheet(): other bits ahead of SIZE", x.sheet(0, 7, -1), Check.BEYOND);
        Check.edge("sheet(): SIZE then", x.sheet(0, 8, -1), Check.SIZE);
        Check.edge("write(): MISSING ahead of BEYOND", x.write(0, 40, 0), Check.MISSING);
        Check.edge("fits(): BEYOND ahead of MISSING", x.fits(-1), Check.BEYOND);
        Check.edge("maybe(): MISSING ahead of NONE", x.maybe(1), Check.MISSING);
        Check.edge("surely(): MISSING ahead of NONE", x.surely(1), Check.MISSING);
        x.sheet(0, 8, 1);
        x.sheet(1, 16, 1);
        Check.edge("copy(): no such sheet ahead of MISSING", x.copy(2, 0, 4, 0, 0), Check.BEYOND);
        Check.edge("copy(): no such sheet ahead of MISSING, from it", x.copy(4, 0, 2, 0, 0), Check.BEYOND);
        Check.edge("copy(): MISSING ahead of KIND", x.copy(0, 0, 2, 0, 0), Check.MISSING);
        Check.edge("copy(): MISSING ahead of BEYOND", x.copy(2, -1, 0, 0, 0), Check.MISSING);
        Check.edge("copy(): KIND ahead of BEYOND", x.copy(0, -1, 1, 0, 0), Check.KIND);
        Check.edge("copy(): BEYOND then", x.copy(0, -1, 0, 0, 0), Check.BEYOND);
    }

    private static void cut() {
        Check.sentence(0, "Quotients are cut.");
        ChainedChest x = Check.with(2, 3, 4, 0);
        for (int l = 0; l < 3; l++) {
            x.change(l, 1, 9);
        }
        Check.edge("half of 9 as CHAIN SOUNDS", x.of(0, 12), 4);
        Check.edge("half of 9 as OLD TAKES", x.of(1, 11), 4);
        Check.edge("half of 9 as RUSTED TAKES", x.of(2, 11), 8);
        x.off(3);
        x.change(1, 1, 10);
        Check.edge("half of 13", x.of(1, 11), 6);
    }

    private static void leastOfSeveral() {
        Check.sentence(0, "of several that would do the least number counts, where nothing else is told.");
        ChainedChest x = Check.with(0, 0, 0);
        x.rule(2, 7);
        Check.edge("wire()", x.wire(), 0);
        Check.edge("spared()", x.spared(), 0);
        Check.edge("link()", x.link(), 1);
        x.change(0, 1, 1);
        Check.edge("kindFor(): 1 as LOCK, ROPE, CHAIN, OLD and BOLT", x.kindFor(0), 0);
        x.change(0, 3, 5);
        for (int l = 1; l < 3; l++) {
            x.change(l, 2, 5);
            x.change(l, 6, 5 - l);
        }
        x.rule(2, 1);
        Check.edge("tools(): 3 or 4", x.tools(), 4);
    }

    private static void tenLocks() {
        Check.sentence(0, "LOCKS 0, 1, .. (at most 10), each ON (at first) or OFF");
        ChainedChest x = new ChainedChest();
        for (int l = 0; l < 10; l++) {
            Check.edge("none is there yet", x.of(l, 10), Check.BEYOND);
            Check.edge("by its number", x.lock(0), l);
            Check.edge("ON", x.of(l, 10), 1);
        }
        Check.edge("no 11th", x.lock(0), Check.FULL);
        Check.edge("nor by a text", Check.read(x, "lock"), -1);
        Check.edge("ten", x.count(1), 10);
        x.off(9);
        Check.edge("OFF", x.of(9, 10), 0);
        Check.edge("an other one is ON", x.of(8, 10), 1);
    }

    private static void kinds() {
        Check.sentence(0, "of KINDS: 0 LOCK; 1 ROPE, 2 CHAIN, 6 BOLT under LOCK; 5 NAIL under ROPE; 3 OLD under CHAIN; 4 RUSTED under OLD.");
        int[] above = {-1, 0, 0, 2, 3, 1, 0};
        ChainedChest x = Check.with(0, 1, 2, 3, 4, 5, 6);
        for (int kind = 0; kind < 7; kind++) {
            x.hold(kind, kind);
            Check.edge("KIND", x.of(kind, 0), kind);
            Check.edge("as itself", x.as(kind, kind), kind);
            Check.edge("all are LOCKS", x.as(kind, 0), kind);
            if (kind > 0) {
                Check.edge(kind + " under " + above[kind], x.as(kind, above[kind]), kind);
                Check.edge(above[kind] + " isn't under " + kind, x.as(above[kind], kind), Check.KIND);
            }
        }
        Check.edge("RUSTED under CHAIN, too", x.as(4, 2), 4);
        Check.edge("NAIL isn't under CHAIN", x.as(5, 2), Check.KIND);
        Check.edge("OLD isn't under ROPE", x.as(3, 1), Check.KIND);
        Check.edge("BOLT isn't under ROPE", x.as(6, 1), Check.KIND);
        Check.edge("kind -1", x.lock(-1), Check.BEYOND);
        Check.edge("kind 7", x.lock(7), Check.BEYOND);
    }

    private static void traits() {
        trait("TIME (1 to 60; 10 at first)", 1, 1, 60, 10);
        trait("GIVES (0 to 9; 0 at first)", 2, 0, 9, 0);
        trait("WANTS (0 to 40; 0 at first)", 3, 0, 40, 0);
        trait("BINDS (a set of HANDS 0, 1: 0 to 3; 0 at first)", 4, 0, 3, 0);
        trait("HANDS (0 to 2; 1 at first)", 5, 0, 2, 1);
        trait("TOOL (0 none, at first; 1 to 4)", 6, 0, 4, 0);
        trait("WEAK (0 to 9 tenths; 0 at first)", 7, 0, 9, 0);
    }

    private static void trait(String words, int what, int least, int most, int first) {
        Check.sentence(0, words);
        ChainedChest x = Check.tenLocks();
        for (int l = 0; l < 10; l++) {
            Check.edge("at first", x.of(l, what), first);
            Check.edge("the most", x.change(l, what, most), first);
            Check.edge("one more", x.change(l, what, most + 1), Check.BEYOND);
            Check.edge("all too many", x.change(l, what, MAX), Check.BEYOND);
            Check.edge("the most stays", x.of(l, what), most);
            Check.edge("the least", x.change(l, what, least), most);
            Check.edge("one less", x.change(l, what, least - 1), Check.BEYOND);
            Check.edge("all too few", x.change(l, what, MIN), Check.BEYOND);
            Check.edge("the least stays", x.of(l, what), least);
        }
    }

    private static void sets() {
        Check.sentence(0, "AFTER (a set of LOCKS; none at first), WITH (likewise).");
        ChainedChest x = new ChainedChest();
        for (int l = 0; l < 10; l++) {
            x.lock(0);
            int all = (2 << l) - 1;
            for (int what = 8; what < 10; what++) {
                Check.edge("none at first", x.of(l, what), 0);
                Check.edge("all that there are", x.change(l, what, all), 0);
                Check.edge("one that isn't there", x.change(l, what, all + 1), Check.BEYOND);
                Check.edge("below none", x.change(l, what, -1), Check.BEYOND);
                Check.edge("all of them still", x.of(l, what), all);
            }
        }
    }

    private static void rules() {
        rule("He has TOOLS (a set of 1 to 4: bits 0 to 3; none at first)", 0, 15, 0);
        rule("and SPARE (slack, 0 to 40; 0 at first).", 1, 40, 0);
        rule("GOAL: a set of LOCKS (none at first).", 2, 1023, 0);
        rule("MARCH, STILL (minutes, 0 to 60; 5 and 5 at first).", 3, 60, 5);
        rule("MARCH, STILL (minutes, 0 to 60; 5 and 5 at first).", 4, 60, 5);
        Check.sentence(0, "GOAL: a set of LOCKS");
        ChainedChest x = new ChainedChest();
        Check.edge("none of none", x.rule(2, 0), 0);
        for (int l = 0; l < 10; l++) {
            Check.edge("one that isn't there", x.rule(2, 1 << l), Check.BEYOND);
            x.lock(0);
            Check.edge("one that is", x.rule(2, 1 << l), l == 0 ? 0 : 1 << l - 1);
        }
    }

    private static void rule(String words, int what, int most, int first) {
        Check.sentence(0, words);
        ChainedChest x = Check.tenLocks();
        Check.edge("at first, and the most", x.rule(what, most), first);
        Check.edge("one more", x.rule(what, most + 1), Check.BEYOND);
        Check.edge("all too many", x.rule(what, MAX), Check.BEYOND);
        Check.edge("0", x.rule(what, 0), most);
        Check.edge("below 0", x.rule(what, -1), Check.BEYOND);
        Check.edge("all too few", x.rule(what, MIN), Check.BEYOND);
        Check.edge("0 stays", x.rule(what, first), 0);
    }

    private static void slack() {
        Check.sentence(0, "SLACK: SPARE, and what all LOCKS that are OFF GIVE.");
        ChainedChest x = Check.tenLocks();
        for (int l = 0; l < 10; l++) {
            x.change(l, 2, 9);
        }
        Check.edge("none: those that are ON give nothing", x.now(3), 0);
        x.rule(1, 40);
        Check.edge("SPARE alone", x.now(3), 40);
        for (int l = 0; l < 10; l++) {
            x.off(l);
            Check.edge("and 9 more", x.now(3), 49 + 9 * l);
        }
        x.on(9);
        Check.edge("ON again", x.now(3), 121);
    }

    private static void free() {
        Check.sentence(0, "FREE: HANDS 0 and 1 that no LOCK that is ON BINDS.");
        ChainedChest x = Check.with(0, 0, 0);
        for (int l = 0; l < 3; l++) {
            x.change(l, 5, 0);
        }
        Check.edge("both", x.now(4), 3);
        x.change(2, 4, 1);
        Check.edge("HAND 1", x.now(4), 2);
        x.change(2, 4, 2);
        Check.edge("HAND 0", x.now(4), 1);
        x.change(2, 4, 3);
        Check.edge("none by one LOCK", x.now(4), 0);
        x.change(1, 4, 1);
        x.off(2);
        Check.edge("one that is OFF BINDS nothing", x.now(4), 2);
        x.change(0, 4, 1);
        x.off(1);
        Check.edge("bound by another one still", x.now(4), 2);
        x.off(0);
        Check.edge("both again", x.now(4), 3);
        Check.edge("no LOCKS: both", new ChainedChest().now(4), 3);
    }

    private static void wants() {
        Check.sentence(0, "A LOCK that is ON MAY come off: if SLACK is what it WANTS or more;");
        ChainedChest x = Check.with(0);
        Check.edge("0 of 0", x.may(), 1);
        x.change(0, 3, 40);
        x.rule(1, 39);
        Check.edge("one short", x.may(), 0);
        Check.edge("one short, why", x.why(0), 2);
        Check.edge("one short, off", x.off(0), Check.STATE);
        x.rule(1, 40);
        Check.edge("just so much", x.may(), 1);
        x.change(0, 3, 39);
        Check.edge("more", x.may(), 1);
        x.off(0);
        Check.edge("it is OFF", x.may(), 0);
    }

    private static void hands() {
        Check.sentence(0, "as many HANDS are FREE as it has HANDS;");
        int[] binds = {3, 1, 0};
        for (int free = 0; free < 3; free++) {
            for (int hands = 0; hands < 3; hands++) {
                ChainedChest x = Check.with(0, 0);
                x.change(1, 4, binds[free]);
                x.change(1, 5, 2);
                x.change(0, 5, hands);
                Check.edge(hands + " of " + free, x.why(0), hands > free ? 3 : 0);
            }
        }
        ChainedChest x = Check.with(0);
        x.change(0, 4, 2);
        Check.edge("one HAND, while it BINDS the other", x.why(0), 0);
        x.change(0, 4, 3);
        Check.edge("it BINDS both itself", x.why(0), 3);
    }

    private static void tool() {
        Check.sentence(0, "it has no TOOL, or that of its is in TOOLS;");
        ChainedChest x = Check.with(0);
        for (int tools = 0; tools < 16; tools++) {
            x.rule(0, tools);
            for (int tool = 0; tool < 5; tool++) {
                x.change(0, 6, tool);
                boolean has = tool == 0 || (tools & 1 << tool - 1) != 0;
                Check.edge("TOOL " + tool + " of " + tools, x.why(0), has ? 0 : 4);
            }
        }
    }

    private static void afterAndWith() {
        Check.sentence(0, "all LOCKS of AFTER are OFF;");
        ChainedChest x = Check.with(0, 0, 0);
        x.change(0, 8, 6);
        Check.edge("none is", x.why(0), 5);
        x.off(1);
        Check.edge("one is", x.why(0), 5);
        x.off(2);
        Check.edge("both are", x.why(0), 0);
        x.change(0, 8, 7);
        Check.edge("itself never is", x.why(0), 5);
        Check.sentence(0, "all of WITH (but itself) are ON.");
        for (int l = 0; l < 3; l++) {
            ChainedChest y = Check.with(0, 0, 0);
            int other = (l + 1) % 3;
            y.change(l, 9, 7);
            Check.edge("all are", y.why(l), 0);
            y.off(other);
            Check.edge("one isn't", y.why(l), 6);
            y.on(other);
            Check.edge("all are again", y.off(l), 10);
        }
    }

    /** What a LOCK of a KIND with a TIME TAKES, so many others being OFF that give so much SLACK. */
    private static int takes(int kind, int time, int others, int slack) {
        ChainedChest x = Check.tenLocks();
        for (int l = 0; l < others; l++) {
            x.off(l);
        }
        x.rule(1, slack);
        x.change(9, 0, kind);
        x.change(9, 1, time);
        int told = x.of(9, 11);
        int took = x.off(9);
        Check.edge("as of() told", took, told);
        return took;
    }

    private static void takesOfRopes() {
        Check.sentence(0, "ROPE: TIME less SLACK, 1 at least.");
        Check.edge("no SLACK", takes(1, 20, 0, 0), 20);
        Check.edge("2", takes(1, 20, 0, 18), 2);
        Check.edge("1", takes(1, 20, 0, 19), 1);
        Check.edge("as much SLACK", takes(1, 20, 0, 20), 1);
        Check.edge("more SLACK", takes(1, 20, 0, 21), 1);
        Check.edge("1 of 1", takes(1, 1, 0, 0), 1);
        Check.edge("1 of 40", takes(1, 1, 9, 40), 1);
        Check.edge("20 of 60", takes(1, 60, 9, 40), 20);
        Check.sentence(0, "NAIL: as a ROPE, and 2.");
        Check.edge("no SLACK", takes(5, 60, 0, 0), 62);
        Check.edge("2 and 2", takes(5, 20, 0, 18), 4);
        Check.edge("1 and 2", takes(5, 20, 0, 19), 3);
        Check.edge("1 at least, and 2", takes(5, 20, 0, 20), 3);
        Check.edge("1 at least, and 2 still", takes(5, 20, 0, 22), 3);
        Check.edge("of all the SLACK", takes(5, 1, 0, 40), 3);
    }

    private static void takesOfChains() {
        Check.sentence(0, "CHAIN: TIME, and 3 for each LOCK that is OFF.");
        Check.edge("none", takes(2, 60, 0, 40), 60);
        Check.edge("one", takes(2, 1, 1, 0), 4);
        Check.edge("nine", takes(2, 60, 9, 0), 87);
        Check.sentence(0, "OLD: half of that of a CHAIN (cut), 1 at least.");
        Check.edge("half of 1", takes(3, 1, 0, 0), 1);
        Check.edge("half of 2", takes(3, 2, 0, 0), 1);
        Check.edge("half of 3", takes(3, 3, 0, 0), 1);
        Check.edge("half of 4", takes(3, 1, 1, 0), 2);
        Check.edge("half of 7: that of a CHAIN, not of TIME", takes(3, 1, 2, 0), 3);
        Check.edge("half of 87", takes(3, 60, 9, 0), 43);
        Check.sentence(0, "RUSTED: as OLD, and 4.");
        Check.edge("1 at least, and 4", takes(4, 1, 0, 0), 5);
        Check.edge("half of 3, and 4", takes(4, 3, 0, 0), 5);
        Check.edge("half of 87, and 4", takes(4, 60, 9, 0), 47);
    }

    private static void takesOfLocks() {
        Check.sentence(0, "TAKES: LOCK: TIME.");
        Check.edge("the least", takes(0, 1, 9, 40), 1);
        Check.edge("the most", takes(0, 60, 9, 40), 60);
        Check.sentence(0, "BOLT: TIME, twice that if fewer than 2 HANDS are FREE.");
        Check.edge("both are", takes(6, 60, 9, 40), 60);
        for (int binds = 0; binds < 4; binds++) {
            ChainedChest x = Check.with(6, 0);
            x.change(0, 1, 60);
            x.change(1, 4, binds);
            Check.edge("bound: " + binds, x.of(0, 11), binds == 0 ? 60 : 120);
        }
    }

    private static void sounds() {
        String[] words = {"SOUNDS: LOCK: 2.", "ROPE: 0.", "CHAIN: half of TIME (cut).", "OLD: as a CHAIN, and 1.",
            "RUSTED: twice as OLD.", "NAIL: 4 more than a ROPE.", "BOLT: as a LOCK."};
        int[] times = {1, 2, 3, 59, 60};
        int[][] want = {{2, 2, 2, 2, 2}, {0, 0, 0, 0, 0}, {0, 1, 1, 29, 30}, {1, 2, 2, 30, 31},
            {2, 4, 4, 60, 62}, {4, 4, 4, 4, 4}, {2, 2, 2, 2, 2}};
        for (int kind = 0; kind < 7; kind++) {
            Check.sentence(0, words[kind]);
            ChainedChest x = Check.with(0, kind);
            x.rule(1, 40);
            x.off(0);
            for (int i = 0; i < times.length; i++) {
                x.change(1, 1, times[i]);
                Check.edge("of TIME " + times[i], x.of(1, 12), want[kind][i]);
            }
        }
    }

    private static void aheadOfTheStep() {
        Check.sentence(0, "(All as it is ahead of the step.)");
        ChainedChest x = Check.with(1, 6, 2, 0);
        x.change(0, 2, 9);
        Check.edge("a ROPE's own GIVES", x.off(0), 10);
        x.change(1, 4, 1);
        Check.edge("a BOLT's own BINDS", x.off(1), 20);
        Check.edge("a CHAIN isn't OFF yet", x.off(2), 16);
        x.change(3, 2, 5);
        x.change(3, 3, 10);
        Check.edge("what it GIVES doesn't do for what it WANTS", x.off(3), Check.STATE);
        x.change(3, 3, 9);
        Check.edge("what others GIVE does", x.off(3), 10);
    }

    private static void out() {
        Check.sentence(0, "OUT: all LOCKS of GOAL are OFF.");
        ChainedChest x = Check.tenLocks();
        Check.edge("an empty GOAL", x.now(5), 1);
        x.rule(2, 513);
        Check.edge("none is OFF", x.now(5), 0);
        x.off(0);
        Check.edge("one of two", x.now(5), 0);
        x.off(5);
        Check.edge("one more, but not of GOAL", x.now(5), 0);
        x.off(9);
        Check.edge("both", x.now(5), 1);
        x.on(5);
        Check.edge("others may be ON", x.now(5), 1);
        x.on(0);
        Check.edge("one is ON again", x.now(5), 0);
        Check.edge("no LOCKS", new ChainedChest().now(5), 1);
    }

    /** An object whose CLOCK stands so high. */
    private static ChainedChest at(int clock) {
        ChainedChest x = Check.with(0);
        for (int left = clock; left > 0; left -= Math.min(left, 60)) {
            x.change(0, 1, Math.min(left, 60));
            x.off(0);
            x.on(0);
        }
        return x;
    }

    private static void band() {
        Check.sentence(0, "THE BAND plays MARCH minutes, then is still STILL, and so on from CLOCK 0 on (never, if both are 0).");
        // CLOCK, MARCH, STILL, plays
        int[][] rows = {{0, 5, 5, 1}, {4, 5, 5, 1}, {5, 5, 5, 0}, {9, 5, 5, 0}, {10, 5, 5, 1}, {14, 5, 5, 1}, {15, 5, 5, 0},
            {0, 60, 60, 1}, {59, 60, 60, 1}, {60, 60, 60, 0}, {119, 60, 60, 0}, {120, 60, 60, 1}, {179, 60, 60, 1},
            {180, 60, 60, 0}, {0, 0, 1, 0}, {1, 0, 1, 0}, {59, 0, 60, 0}, {60, 0, 60, 0}, {0, 1, 0, 1}, {1, 1, 0, 1},
            {60, 60, 0, 1}, {61, 60, 0, 1}, {0, 0, 0, 0}, {7, 0, 0, 0}, {0, 1, 1, 1}, {1, 1, 1, 0}, {2, 1, 1, 1}};
        for (int[] row : rows) {
            ChainedChest x = at(row[0]);
            x.rule(3, row[1]);
            x.rule(4, row[2]);
            Check.edge("CLOCK", x.now(0), row[0]);
            Check.edge("at " + row[0] + " by " + row[1] + " and " + row[2], x.now(6), row[3]);
        }
        ChainedChest x = at(7);
        Check.edge("still at 7", x.now(6), 0);
        x.shut();
        Check.edge("from CLOCK 0 on again", x.now(6), 1);
    }

    private static void heard() {
        Check.sentence(0, "A STEP: a LOCK that MAY comes OFF; CLOCK is more by what it TAKES;");
        ChainedChest ten = Check.tenLocks();
        for (int l = 9; l >= 0; l--) {
            ten.change(l, 1, 60 - l);
            int clock = ten.now(0);
            Check.edge("what LOCK " + l + " TAKES", ten.off(l), 60 - l);
            Check.edge("CLOCK", ten.now(0), clock + 60 - l);
            Check.edge("OFF", ten.now(2), 1024 - (1 << l));
        }
        Check.sentence(0, "HEARD (0 at first) by what it SOUNDS, if THE BAND didn't play as the CLOCK was ahead of it.");
        // CLOCK ahead, TIME, HEARD of a LOCK's step while it plays 5 minutes and is still 5
        int[][] rows = {{0, 5, 0}, {4, 1, 0}, {4, 2, 0}, {5, 5, 2}, {9, 1, 2}, {9, 2, 2}, {10, 1, 0}, {14, 60, 0}, {15, 60, 2}};
        for (int[] row : rows) {
            ChainedChest x = at(row[0]);
            int before = x.now(1);
            x.change(0, 1, row[1]);
            x.off(0);
            Check.edge("from " + row[0] + " for " + row[1], x.now(1) - before, row[2]);
        }
        Check.edge("at first", new ChainedChest().now(1), 0);
        Check.sentence(0, "CLOCK: minutes (0 at first; 99999 at most).");
        Check.edge("at first", new ChainedChest().now(0), 0);
    }

    private static void wayOut() {
        Check.sentence(0, "A WAY OUT: a row of STEPS from as it is now, behind the last of which he is OUT (none, if he is OUT already).");
        ChainedChest x = Check.with(0, 0);
        Check.edge("no STEPS: minutes", x.soonest(), 0);
        Check.edge("no STEPS: how many", x.fewest(), 0);
        Check.edge("no STEPS: its first", x.ith(0), Check.NONE);
        x.rule(2, 2);
        Check.edge("one", x.fewest(), 1);
        x.off(0);
        Check.edge("from as it is now", x.fewest(), 1);
        x.off(1);
        Check.edge("OUT now", x.fewest(), 0);
        x.on(1);
        x.change(1, 9, 1);
        Check.edge("not as it was", x.fewest(), Check.NONE);
    }

    private static void draws() {
        Check.sentence(0, "z is told (1 at first); each makes it z * 1103515245 + 12345 (an int), and gives z >>> 8.");
        Check.edge("1 at first", new ChainedChest().seed(7), 1);
        for (int z : new int[] {MIN, MAX, -1, 0, 1, 2, 1103527590, 123456789, -987654321, 65536}) {
            ChainedChest x = Check.tenLocks();
            x.rule(2, 1023);
            x.seed(z);
            long first = Check.nextZ(z);
            long second = Check.nextZ(first);
            Check.edge("one try from " + z, x.friday(1), 1);
            Check.edge("LOCK by the first draw from " + z, x.now(2), 1 << Check.draw(first) % 10);
            Check.edge("z behind two draws from " + z, x.count(6), second);
        }
    }
}
