/** Terms 3 and the promises 34 to 36, sentence by sentence: THE TAPE, TOKENS, ITEMS, the FAULT. */
final class TextsEdgesTest {
    private static final String TEN = "lock;lock;lock;lock;lock;lock;lock;lock;lock;lock;";

    private TextsEdgesTest() {
    }

    static void run() {
        tape();
        feedHighestFirst();
        feedFull();
        wipe();
        words();
        numbers();
        signsAndBlanks();
        kindWords();
        numbersOfLocks();
        afterThoseThere();
        orderOfOptions();
        numbersOfRules();
        otherWords();
        otherBytes();
        eleventh();
        tooEarly();
        items();
        nothingChanges();
    }

    private static void good(String text, int items) {
        Check.edge("'" + text + "'", Check.read(new ChainedChest(), text), items);
    }

    private static void fault(String text, int place) {
        ChainedChest x = new ChainedChest();
        Check.edge("'" + text + "'", Check.read(x, text), -1 - place);
        Check.edge("'" + text + "' leaves no LOCK", x.count(1), 0);
        Check.edge("'" + text + "' leaves THE TAPE empty", x.count(5), 0);
    }

    private static void tape() {
        Check.sentence(0, "A TEXT is read from THE TAPE (bytes, at most 120).");
        ChainedChest x = new ChainedChest();
        String text = "goal0;".repeat(19) + "goal00";
        Check.feed(x, text);
        Check.edge("120 bytes", x.count(5), 120);
        Check.edge("no 121st", x.feed(' ', 1), Check.FULL);
        Check.edge("all are read", x.text(), 20);
        Check.feed(x, "goal0;".repeat(19) + "goal0?");
        Check.edge("the FAULT at the last", x.text(), -1 - 119);
        Check.feed(x, "goal0;".repeat(20));
        Check.edge("the FAULT behind the last", x.text(), -1 - 120);
    }

    private static void feedHighestFirst() {
        Check.sentence(34, "THE TAPE gets the n lowest bytes of a number behind it, the highest of these first (n 1 to 4): how many it has.");
        ChainedChest x = new ChainedChest();
        Check.edge("four", x.feed('g' << 24 | 'o' << 16 | 'a' << 8 | 'l', 4), 4);
        Check.edge("one of four", x.feed('?' << 24 | '?' << 16 | '?' << 8 | '0', 1), 5);
        Check.edge("two of four", x.feed('?' << 24 | '?' << 16 | ';' << 8 | 's', 2), 7);
        Check.edge("three of four", x.feed('?' << 24 | 'p' << 16 | 'a' << 8 | 'r', 3), 10);
        Check.edge("two", x.feed('e' << 8 | '9', 2), 12);
        Check.edge("as it was fed", x.text(), 2);
        Check.edge("SPARE", x.now(3), 9);
        Check.edge("a number below 0 has four bytes", x.feed(-1, 4), 4);
        Check.edge("no sign stays in a byte", x.feed(-1 << 8 | 'a', 1), 5);
        Check.edge("255 begins no TOKEN", x.text(), -1);
        Check.sentence(34, "BEYOND: n.");
        for (int n : new int[] {Integer.MIN_VALUE, -1, 0, 5, Integer.MAX_VALUE}) {
            Check.edge("n " + n, x.feed(' ', n), Check.BEYOND);
        }
        Check.edge("none came", x.count(5), 0);
        Check.edge("n 1", x.feed(' ', 1), 1);
        Check.edge("n 4", x.feed(' ', 4), 5);
    }

    private static void feedFull() {
        Check.sentence(34, "FULL.");
        for (int n = 1; n <= 4; n++) {
            ChainedChest x = new ChainedChest();
            for (int i = 0; i < 120 - n; i++) {
                x.feed(' ', 1);
            }
            Check.edge(n + " to 120", x.feed(' ', n), 120);
            Check.edge("one more", x.feed(' ', 1), Check.FULL);
        }
        for (int n = 2; n <= 4; n++) {
            ChainedChest x = new ChainedChest();
            for (int i = 0; i < 121 - n; i++) {
                x.feed(' ', 1);
            }
            Check.edge(n + " to 121", x.feed(' ', n), Check.FULL);
            Check.edge("none of them came", x.count(5), 121 - n);
            Check.edge("the others do", x.feed(' ', n - 1), 120);
        }
    }

    private static void wipe() {
        Check.sentence(35, "THE TAPE is empty: how many it had.");
        ChainedChest x = new ChainedChest();
        Check.edge("0", x.wipe(), 0);
        x.feed(' ', 1);
        Check.edge("1", x.wipe(), 1);
        for (int i = 0; i < 30; i++) {
            x.feed(0, 4);
        }
        Check.edge("120", x.wipe(), 120);
        Check.edge("none any more", x.wipe(), 0);
        Check.edge("there is room again", x.feed(0, 4), 4);
    }

    private static void words() {
        Check.sentence(0, "TOKENS, each as long as can be: WORDS (letters a to z)");
        good("lock", 1);
        fault("locklock", 0);
        fault("lock timegives 3", 5);
        fault("loc k", 0);
        fault("lock`", 4);
        fault("lock{", 4);
        fault("`lock", 0);
        fault("{lock", 0);
        fault("Lock", 0);
        fault("lock timE 3", 5);
        fault("loc\u00ebk", 0);
        fault("a", 0);
        fault("z", 0);
    }

    private static void numbers() {
        Check.sentence(0, "NUMBERS (digits, 1023 at most)");
        good(TEN + "goal 1023", 11);
        good(TEN + "goal 0001023", 11);
        good("spare 00000000000000000000000000000000000040", 1);
        ten("goal 1024", 5);
        ten("goal 1025", 5);
        ten("goal 2047", 5);
        ten("goal 10230", 5);
        ten("goal 9999", 5);
        ten("goal 4294967296", 5);
        ten("goal 4294967297", 5);
        ten("goal 18446744073709551616", 5);
        ten("goal 99999999999999999999999999999999", 5);
        fault("spare /", 6);
        fault("spare :", 6);
        fault("spare 1/", 7);
        fault("spare 1:", 7);
        fault("spare -1", 6);
        fault("spare +1", 6);
        fault("spare 1.0", 7);
        fault("spare 1 0", 8);
    }

    /** A FAULT for the NUMBER though there are ten LOCKS. */
    private static void ten(String text, int place) {
        ChainedChest x = Check.tenLocks();
        Check.edge("'" + text + "' of ten", Check.read(x, text), -1 - place);
        Check.edge("GOAL stays", x.rule(2, 0), 0);
    }

    private static void signsAndBlanks() {
        Check.sentence(0, "SIGN ; ; blanks may stand between.");
        good("lock;rope", 2);
        good("lock ; rope", 2);
        good("lock  ;  rope  time  3", 2);
        good("  lock", 1);
        good("lock  ", 1);
        good("lock time3gives4;spare5", 2);
        fault("lock,rope", 4);
        fault("lock:rope", 4);
        fault("lock<rope", 4);
        fault("lock rope", 5);
        fault("lock\trope", 4);
        fault("lock\n;rope", 4);
        fault("\u001flock", 0);
        fault("!lock", 0);
        fault("lock\u00a0", 4);
    }

    private static void kindWords() {
        Check.sentence(0, "ITEM: lock, rope, chain, old, rusted, nail or bolt");
        String[] words = {"lock", "rope", "chain", "old", "rusted", "nail", "bolt"};
        for (int kind = 0; kind < 7; kind++) {
            ChainedChest x = new ChainedChest();
            Check.edge(words[kind], Check.read(x, words[kind]), 1);
            Check.edge("its KIND", x.of(0, 0), kind);
            int[] first = {10, 0, 0, 0, 1, 0, 0, 0, 0, 1};
            for (int what = 1; what <= 10; what++) {
                Check.edge("as a new LOCK: " + what, x.of(0, what), first[what - 1]);
            }
            fault(words[kind] + "s", 0);
            fault(words[kind].substring(1), 0);
            fault(words[kind].substring(0, words[kind].length() - 1), 0);
        }
    }

    private static void numbersOfLocks() {
        option("perhaps time and a NUMBER (1 to 60)", "time", 1, 1, 60);
        option("perhaps gives and a NUMBER (0 to 9)", "gives", 2, 0, 9);
        option("perhaps wants and a NUMBER (0 to 40)", "wants", 3, 0, 40);
        option("perhaps binds and a NUMBER (0 to 3)", "binds", 4, 0, 3);
        option("perhaps hands and a NUMBER (0 to 2)", "hands", 5, 0, 2);
    }

    private static void option(String sentence, String word, int what, int least, int most) {
        Check.sentence(0, sentence);
        for (int v = least; v <= most; v++) {
            ChainedChest x = new ChainedChest();
            Check.edge(word + " " + v, Check.read(x, "bolt " + word + " " + v), 1);
            Check.edge(word + " is " + v, x.of(0, what), v);
        }
        if (least > 0) {
            fault("bolt " + word + " " + (least - 1), 6 + word.length());
        }
        fault("bolt " + word + " " + (most + 1), 6 + word.length());
        fault("bolt " + word + " 1023", 6 + word.length());
        fault("bolt " + word + " 1024", 6 + word.length());
        fault("bolt " + word + " 4294967297", 6 + word.length());
        fault("bolt " + word, 5 + word.length());
        fault("bolt " + word + ";", 5 + word.length());
        fault("bolt " + word + " " + word, 6 + word.length());
    }

    private static void afterThoseThere() {
        Check.sentence(0, "perhaps after and a NUMBER (a set of LOCKS that are there by then, itself not)");
        good("lock after 0", 1);
        fault("lock after 1", 11);
        good("lock;lock after 1", 2);
        fault("lock;lock after 2", 16);
        fault("lock;lock after 3", 16);
        fault("lock;lock after 1;lock after 4", 29);
        good("lock;lock after 1;lock after 3", 3);
        ChainedChest x = Check.with(0, 0, 0, 0, 0, 0, 0, 0, 0);
        Check.edge("itself, the tenth", Check.read(x, "lock after 512"), -1 - 11);
        Check.edge("all nine and itself", Check.read(x, "lock after 1023"), -1 - 11);
        Check.edge("all nine", Check.read(x, "lock after 511"), 1);
        Check.edge("AFTER", x.of(9, 8), 511);
    }

    private static void orderOfOptions() {
        Check.sentence(0, "perhaps time and a NUMBER (1 to 60), perhaps gives and a NUMBER (0 to 9), perhaps wants");
        String[] options = {"time 1", "gives 1", "wants 1", "binds 1", "hands 1", "after 0"};
        good("lock " + String.join(" ", options), 1);
        for (int i = 0; i < options.length; i++) {
            good("lock " + options[i], 1);
            for (int j = 0; j < options.length; j++) {
                String text = "lock " + options[i] + " " + options[j];
                if (i < j) {
                    good(text, 1);
                } else {
                    fault(text, 6 + options[i].length());
                }
            }
        }
    }

    private static void numbersOfRules() {
        rule("tools, a NUMBER (0 to 15)", "tools", 0, 15);
        rule("spare, a NUMBER (0 to 40)", "spare", 1, 40);
        rule("goal, a NUMBER (a set of LOCKS there by then).", "goal", 2, 7);
        Check.sentence(0, "(a set of LOCKS there by then).");
        good("goal 0", 1);
        fault("goal 1", 5);
        fault("goal 1;lock", 5);
        good("lock;goal 1", 2);
        fault("lock;goal 2;lock", 10);
        fault("lock;goal 3", 10);
        good("lock;goal 1;lock;goal 3", 4);
    }

    private static void rule(String sentence, String word, int what, int most) {
        Check.sentence(0, sentence);
        for (int v = 0; v <= most; v++) {
            ChainedChest x = Check.with(0, 0, 0);
            Check.edge(word + " " + v, Check.read(x, word + v), 1);
            Check.edge(word + " is " + v, x.rule(what, 0), v);
        }
        for (String more : new String[] {"" + (most + 1), "1023", "1024", "x", "-1"}) {
            ChainedChest x = Check.with(0, 0, 0);
            Check.edge(word + " " + more, Check.read(x, word + " " + more), -2 - word.length());
            Check.edge("it stays", x.rule(what, 0), 0);
        }
        fault(word, word.length());
        fault(word + ";", word.length());
        fault(word + " 0 0", word.length() + 3);
    }

    private static void otherWords() {
        Check.sentence(0, "FAULT: the place (from 0) of the first byte of the first TOKEN that can't stand there (a NUMBER that isn't as told, another WORD");
        fault("march 5", 0);
        fault("  door", 2);
        fault("time 3", 0);
        fault("5", 0);
        fault(";", 0);
        fault("lock;;rope", 5);
        fault("lock tool 1", 5);
        fault("lock weak 1", 5);
        fault("lock with 0", 5);
        fault("lock 3", 5);
        fault("lock   door", 7);
        fault("lock time door", 10);
        fault("lock time ;", 10);
        fault("lock time 61;door", 10);
        fault("door;lock time 61", 0);
        fault("spare 3 lock", 8);
        fault("spare 3 time 3", 8);
    }

    private static void otherBytes() {
        Check.sentence(0, "a byte that begins no TOKEN");
        for (int b = 0; b < 256; b++) {
            boolean begins = b == ' ' || b == ';' || b >= '0' && b <= '9' || b >= 'a' && b <= 'z';
            if (!begins) {
                fault((char) b + "lock", 0);
                fault("lock" + (char) b, 4);
                fault("spare 3" + (char) b + "4", 7);
            }
        }
        for (String text : new String[] {"lock", "time", "lock 3", ";"}) {
            Check.edge("' " + text + "' stands behind a blank", Check.read(new ChainedChest(), " " + text), text.equals("lock") ? 1
                : text.equals("lock 3") ? -1 - 6 : -1 - 1);
        }
    }

    private static void eleventh() {
        Check.sentence(0, "the WORD of an 11th LOCK: its own");
        fault(TEN + "lock", 50);
        fault(TEN + "lock time 99", 50);
        fault(TEN + " rusted", 51);
        fault(TEN + "door", 50);
        good(TEN.substring(0, 49), 10);
        good(TEN + "goal 1023", 11);
        for (int there = 0; there <= 10; there++) {
            ChainedChest x = new ChainedChest();
            for (int l = 0; l < there; l++) {
                x.lock(1);
            }
            Check.edge(there + " are there, two more", Check.read(x, "bolt; bolt"), there < 9 ? 2 : there == 9 ? -1 - 6 : -1);
            Check.edge("LOCKS then", x.count(1), there < 9 ? there + 2 : there);
        }
    }

    private static void tooEarly() {
        Check.sentence(0, "or how many bytes there are if it ends too early.");
        fault("", 0);
        fault(" ", 1);
        fault("     ", 5);
        fault("lock;", 5);
        fault("lock;  ", 7);
        fault("lock time", 9);
        fault("lock time   ", 12);
        fault("goal", 4);
        fault("lock;spare ", 11);
        fault(" ".repeat(120), 120);
        fault("spare" + " ".repeat(115), 120);
        good("spare" + " ".repeat(114) + "9", 1);
    }

    private static void items() {
        Check.sentence(36, "THE TAPE is a TEXT, and empty then; all that it tells is so, item by item: how many ITEMS.");
        ChainedChest x = new ChainedChest();
        Check.edge("one", Check.read(x, "lock"), 1);
        Check.edge("empty then", x.count(5), 0);
        Check.edge("an empty one is none", x.text(), -1);
        Check.edge("the later one stays", Check.read(x, "spare 1;spare 2;goal 1;goal 0"), 4);
        Check.edge("SPARE", x.rule(1, 0), 2);
        Check.edge("GOAL", x.rule(2, 0), 0);
        Check.edge("behind those that were there", Check.read(x, "rope after 1;goal 3"), 2);
        Check.edge("ROPE", x.of(1, 0), 1);
        Check.edge("LOCKS", x.count(1), 2);
        x.off(0);
        Check.edge("what is OFF stays so", Check.read(x, "nail"), 1);
        Check.edge("OFF", x.now(2), 1);
    }

    private static void nothingChanges() {
        Check.sentence(36, "With a FAULT: -1 less the FAULT (nothing changes but that THE TAPE is empty; no finding).");
        ChainedChest x = Check.with(2);
        x.rule(0, 6);
        x.rule(1, 7);
        x.rule(2, 1);
        x.change(0, 1, 33);
        Check.feed(x, "tools 1;spare 1;goal 0;lock time 5 gives 5 wants 5 binds 3 hands 2 after 1;nail;goal 7;tools 16");
        Check.edge("the last NUMBER", x.text(), -1 - 93);
        Check.edge("no new LOCK", x.count(1), 1);
        Check.edge("TOOLS", x.rule(0, 0), 6);
        Check.edge("SPARE", x.rule(1, 0), 7);
        Check.edge("GOAL", x.rule(2, 0), 1);
        Check.edge("TIMES", x.count(4), 33);
        Check.edge("THE TAPE", x.count(5), 0);
        Check.edge("no finding", x.status(-1), 0);
        Check.edge("the next number is free still", x.lock(0), 1);
        Check.edge("as at first", x.of(1, 1), 10);
        Check.edge("AFTER as at first", x.of(1, 8), 0);
    }
}
