/** Counts what was asked, by promise, and prints each answer that is not the one that is due. */
final class Check {
    static final int BEYOND = -1000001;
    static final int FULL = -1000002;
    static final int KIND = -1000003;
    static final int NONE = -1000004;
    static final int STATE = -1000005;
    static final int MISSING = -1000006;
    static final int SIZE = -1000007;
    static final int PROMISES = 48;

    private static final int[] asked = new int[PROMISES + 1];
    private static int passed = 0;
    private static int failed = 0;
    private static int promiseNow = 0;
    private static String sentence = "";
    private static int edges = 0;

    private Check() {
    }

    static void due(int promise, String what, long got, long want) {
        asked[promise]++;
        if (got == want) {
            passed++;
        } else {
            failed++;
            System.out.println("promise " + promise + ": " + what + " answered " + got + ", due is " + want);
        }
    }

    /** Something that no one promise tells: 0 stands for the language's rules and the model. */
    static void isTrue(String what, boolean holds) {
        due(0, what, holds ? 1 : 0, 1);
    }

    /** From here on edge() asks for a sentence of the document: of a promise, or of the Terms (0). */
    static void sentence(int promise, String words) {
        closeSentence();
        promiseNow = promise;
        sentence = words;
        edges = 0;
    }

    static void edge(String what, long got, long want) {
        edges++;
        due(promiseNow, "\"" + sentence + "\": " + what, got, want);
    }

    /** A sentence for which nothing was asked has no test. */
    private static void closeSentence() {
        isTrue("\"" + sentence + "\" has a test", edges > 0 || sentence.isEmpty());
    }

    static int asked(int promise) {
        return asked[promise];
    }

    static int failed() {
        return failed;
    }

    static void close() {
        closeSentence();
        System.out.println(passed + " passed, " + failed + " failed");
    }

    static ChainedChest with(int... kinds) {
        ChainedChest x = new ChainedChest();
        for (int kind : kinds) {
            x.lock(kind);
        }
        return x;
    }

    static ChainedChest tenLocks() {
        return with(0, 0, 0, 0, 0, 0, 0, 0, 0, 0);
    }

    /** z behind one draw, by long numbers, so that no wrapping of an int is leaned on. */
    static long nextZ(long z) {
        long next = Math.floorMod(z * 1103515245L + 12345, 1L << 32);
        return next >= 1L << 31 ? next - (1L << 32) : next;
    }

    /** What a draw gives that made this z. */
    static int draw(long z) {
        return (int) (Math.floorMod(z, 1L << 32) / 256);
    }

    /** Feeds a text as it stands, four bytes a call. */
    static void feed(ChainedChest x, String text) {
        for (int i = 0; i < text.length(); i += 4) {
            int n = Math.min(4, text.length() - i);
            int bytes = 0;
            for (int j = 0; j < n; j++) {
                bytes = bytes << 8 | text.charAt(i + j) & 255;
            }
            x.feed(bytes, n);
        }
    }

    static int read(ChainedChest x, String text) {
        feed(x, text);
        return x.text();
    }

    static void fill(ChainedChest x, int s, int bits, int... numbers) {
        x.sheet(s, bits, numbers.length);
        for (int i = 0; i < numbers.length; i++) {
            x.write(s, i, numbers[i]);
        }
    }
}
