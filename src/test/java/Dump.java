/** All that can be asked of an object, told as one text. */
final class Dump {
    private Dump() {
    }

    /** Changes nothing but what status() counts. */
    static String of(ChainedChest x) {
        StringBuilder all = new StringBuilder();
        for (int what = 0; what < 8; what++) {
            all.append(" count ").append(x.count(what));
        }
        for (int what = 0; what < 7; what++) {
            all.append(" now ").append(x.now(what));
        }
        for (int l = 0; l < x.count(1); l++) {
            for (int what = 0; what < 13; what++) {
                all.append(what == 0 ? " lock " : " ").append(x.of(l, what));
            }
        }
        for (int what = 0; what < 5; what++) {
            int v = x.rule(what, 0);
            x.rule(what, v);
            all.append(" rule ").append(v);
        }
        for (int spot = 0; spot < 10; spot++) {
            all.append(" spot ").append(x.as(spot, 0));
        }
        for (int s = 0; s < 4; s++) {
            sheet(x, s, all);
        }
        return all.toString();
    }

    /** How long it is (up to 6), which others are of as many bits, and its numbers as TIMES. */
    private static void sheet(ChainedChest x, int s, StringBuilder all) {
        int n = 0;
        while (n < 6 && x.copy(s, 0, s, 0, n) == n) {
            n++;
        }
        all.append(" sheet ").append(n).append(" like");
        for (int t = 0; t < s; t++) {
            all.append(' ').append(x.copy(s, 0, t, 0, 0));
        }
        int locks = Math.min(x.count(1), 5);
        int[] times = new int[locks];
        for (int l = 0; l < locks; l++) {
            times[l] = x.of(l, 1);
        }
        all.append(" numbers ").append(x.load(s));
        for (int l = 0; l < locks; l++) {
            all.append(' ').append(x.of(l, 1));
            x.change(l, 1, times[l]);
        }
    }

    /** What is left behind: THE TAPE as a TEXT, what is kept, and all of it then. */
    static String rest(ChainedChest x) {
        StringBuilder all = new StringBuilder(of(x));
        all.append(" text ").append(x.text()).append(' ').append(x.now(3));
        all.append(" undo ").append(x.undo()).append(' ').append(of(x));
        all.append(" tear ").append(x.tear());
        return all.toString();
    }
}
