import java.math.BigInteger;
import java.util.ArrayList;
import java.util.Arrays;
import java.util.List;
import java.util.TreeSet;
import java.util.function.IntSupplier;

/**
 * The document once more, as plainly as can be: every row of STEPS is gone, one by one.
 * It has the face's methods, so that ModelTest can ask both the same.
 */
public final class Model {
    private static final int LOW = -1000001;
    private static final int KIND = 0;
    private static final int TIME = 1;
    private static final int GIVES = 2;
    private static final int WANTS = 3;
    private static final int BINDS = 4;
    private static final int HANDS = 5;
    private static final int TOOL = 6;
    private static final int WEAK = 7;
    private static final int AFTER = 8;
    private static final int WITH = 9;

    /** A LOCK's traits, and whether it is ON. */
    private static final class Lock {
        int[] is = {0, 10, 0, 0, 0, 1, 0, 0, 0, 0};
        boolean on = true;
    }

    /** A row of STEPS from as it is now, and what it comes to. */
    private static final class Row {
        List<Integer> locks = new ArrayList<>();
        int takes = 0;
        int sounds = 0;
        List<Integer> each = new ArrayList<>();
        boolean out = false;
        boolean outAhead = false;
        TreeSet<Integer> off = new TreeSet<>();
    }

    /** All but THE TAPE and SHEETS. */
    private static final class Image {
        List<Lock> locks = new ArrayList<>();
        int[] rules = {0, 0, 0, 5, 5};
        int[] spots = new int[10];
        int clock = 0;
        int heard = 0;
        int z = 1;

        Image copied() {
            Image i = new Image();
            for (Lock l : locks) {
                Lock m = new Lock();
                m.is = l.is.clone();
                m.on = l.on;
                i.locks.add(m);
            }
            i.rules = rules.clone();
            i.spots = spots.clone();
            i.clock = clock;
            i.heard = heard;
            i.z = z;
            return i;
        }
    }

    private Image me = new Image();
    private Image kept = null;
    private final StringBuilder tape = new StringBuilder();
    private final int[][] sheets = new int[4][];
    private final int[] widths = new int[4];
    private final int[] told = new int[7];

    public Model() {
        Arrays.fill(me.spots, -1);
    }

    private int tell(int which) {
        told[which]++;
        return LOW - which;
    }

    private int beyond() {
        return tell(0);
    }

    private int none() {
        return tell(3);
    }

    private boolean is(int lock) {
        return lock >= 0 && lock < me.locks.size();
    }

    private int set() {
        return (1 << me.locks.size()) - 1;
    }

    private int offSet() {
        int bits = 0;
        for (int l = 0; l < me.locks.size(); l++) {
            bits += me.locks.get(l).on ? 0 : 1 << l;
        }
        return bits;
    }

    private int slack() {
        int sum = me.rules[1];
        for (Lock l : me.locks) {
            sum += l.on ? 0 : l.is[GIVES];
        }
        return sum;
    }

    private boolean free(int hand) {
        for (Lock l : me.locks) {
            if (l.on && (l.is[BINDS] & 1 << hand) != 0) {
                return false;
            }
        }
        return true;
    }

    private int freeHands() {
        return (free(0) ? 1 : 0) + (free(1) ? 1 : 0);
    }

    private boolean out() {
        for (int l = 0; l < me.locks.size(); l++) {
            if ((me.rules[2] & 1 << l) != 0 && me.locks.get(l).on) {
                return false;
            }
        }
        return true;
    }

    private boolean plays(int clock) {
        int turn = 0;
        if (me.rules[3] + me.rules[4] == 0) {
            return false;
        }
        while (turn + me.rules[3] + me.rules[4] <= clock) {
            turn += me.rules[3] + me.rules[4];
        }
        return clock - turn < me.rules[3];
    }

    private int reason(int lock) {
        Lock me1 = me.locks.get(lock);
        if (!me1.on) {
            return 1;
        }
        if (slack() < me1.is[WANTS]) {
            return 2;
        }
        if (freeHands() < me1.is[HANDS]) {
            return 3;
        }
        if (me1.is[TOOL] > 0 && (me.rules[0] & 1 << me1.is[TOOL] - 1) == 0) {
            return 4;
        }
        for (int l = 0; l < me.locks.size(); l++) {
            if ((me1.is[AFTER] & 1 << l) != 0 && me.locks.get(l).on) {
                return 5;
            }
        }
        for (int l = 0; l < me.locks.size(); l++) {
            if ((me1.is[WITH] & 1 << l) != 0 && l != lock && !me.locks.get(l).on) {
                return 6;
            }
        }
        return 0;
    }

    private int takes(int lock, int kind) {
        int time = me.locks.get(lock).is[TIME];
        int howManyOff = Integer.bitCount(offSet());
        switch (kind) {
            case 0: return time;
            case 1: return Math.max(time - slack(), 1);
            case 2: return time + 3 * howManyOff;
            case 3: return Math.max(takes(lock, 2) / 2, 1);
            case 4: return takes(lock, 3) + 4;
            case 5: return takes(lock, 1) + 2;
            default: return freeHands() < 2 ? 2 * time : time;
        }
    }

    private int takes(int lock) {
        return takes(lock, me.locks.get(lock).is[KIND]);
    }

    private int sounds(int lock, int kind) {
        int time = me.locks.get(lock).is[TIME];
        switch (kind) {
            case 0: return 2;
            case 1: return 0;
            case 2: return time / 2;
            case 3: return sounds(lock, 2) + 1;
            case 4: return 2 * sounds(lock, 3);
            case 5: return 4 + sounds(lock, 1);
            default: return sounds(lock, 0);
        }
    }

    private int sounds(int lock) {
        return sounds(lock, me.locks.get(lock).is[KIND]);
    }

    /** Every row from now on, the least first; longer ones than most are left out. */
    private List<Row> allRows(int most) {
        List<Row> all = new ArrayList<>();
        go(new Row(), all, most);
        return all;
    }

    private void go(Row row, List<Row> all, int most) {
        Row here = new Row();
        here.locks.addAll(row.locks);
        here.each.addAll(row.each);
        here.takes = row.takes;
        here.sounds = row.sounds;
        here.outAhead = row.outAhead;
        here.out = out();
        all.add(here);
        for (int l = 0; l < me.locks.size(); l++) {
            if (!me.locks.get(l).on) {
                here.off.add(l);
            }
        }
        if (row.locks.size() == most) {
            return;
        }
        for (int l = 0; l < me.locks.size(); l++) {
            if (reason(l) == 0) {
                Row next = new Row();
                next.locks.addAll(row.locks);
                next.locks.add(l);
                next.each.addAll(row.each);
                next.each.add(sounds(l));
                next.takes = row.takes + takes(l);
                next.sounds = row.sounds + sounds(l);
                next.outAhead = here.outAhead || here.out;
                me.locks.get(l).on = false;
                go(next, all, most);
                me.locks.get(l).on = true;
            }
        }
    }

    private static int bits(Iterable<Integer> locks) {
        int bits = 0;
        for (int l : locks) {
            bits |= 1 << l;
        }
        return bits;
    }

    /** The first of the soonest WAYS OUT, or null. */
    private Row best() {
        Row best = null;
        for (Row row : allRows(10)) {
            if (row.out && (best == null || row.takes < best.takes)) {
                best = row;
            }
        }
        return best;
    }

    /** What soonest() is, -1 for none. */
    private int time() {
        Row row = best();
        return row == null ? -1 : row.takes;
    }

    private int least(IntSupplier what) {
        int answer = what.getAsInt();
        return answer < 0 ? none() : answer;
    }

    public int lock(int kind) {
        if (kind < 0 || kind > 6) {
            return beyond();
        }
        if (me.locks.size() == 10) {
            return tell(1);
        }
        Lock lock = new Lock();
        lock.is[KIND] = kind;
        me.locks.add(lock);
        return me.locks.size() - 1;
    }

    public int of(int lock, int what) {
        if (!is(lock) || what < 0 || what > 12) {
            return beyond();
        }
        if (what < 10) {
            return me.locks.get(lock).is[what];
        }
        return what == 10 ? me.locks.get(lock).on ? 1 : 0 : what == 11 ? takes(lock) : sounds(lock);
    }

    public int change(int lock, int what, int v) {
        int[] most = {6, 60, 9, 40, 3, 2, 4, 9, set(), set()};
        if (!is(lock) || what < 0 || what > 9 || v < (what == TIME ? 1 : 0) || v > most[what]) {
            return beyond();
        }
        int was = me.locks.get(lock).is[what];
        me.locks.get(lock).is[what] = v;
        return was;
    }

    public int rule(int what, int v) {
        int[] most = {15, 40, set(), 60, 60};
        if (what < 0 || what > 4 || v < 0 || v > most[what]) {
            return beyond();
        }
        int was = me.rules[what];
        me.rules[what] = v;
        return was;
    }

    public int on(int lock) {
        if (!is(lock)) {
            return beyond();
        }
        boolean was = me.locks.get(lock).on;
        me.locks.get(lock).on = true;
        return was ? 0 : 1;
    }

    public int shut() {
        int were = 0;
        for (int l = 0; l < me.locks.size(); l++) {
            were += on(l);
        }
        me.clock = 0;
        me.heard = 0;
        return were;
    }

    public int may() {
        int bits = 0;
        for (int l = 0; l < me.locks.size(); l++) {
            bits += reason(l) == 0 ? 1 << l : 0;
        }
        return bits;
    }

    public int why(int lock) {
        return is(lock) ? reason(lock) : beyond();
    }

    public int off(int lock) {
        if (!is(lock)) {
            return beyond();
        }
        int takes = takes(lock);
        if (reason(lock) != 0 || me.clock + takes > 99999) {
            return tell(4);
        }
        me.heard += plays(me.clock) ? 0 : sounds(lock);
        me.clock += takes;
        me.locks.get(lock).on = false;
        return takes;
    }

    public int now(int what) {
        if (what < 0 || what > 6) {
            return beyond();
        }
        int[] all = {me.clock, me.heard, offSet(), slack(), (free(0) ? 1 : 0) + (free(1) ? 2 : 0),
            out() ? 1 : 0, plays(me.clock) ? 1 : 0};
        return all[what];
    }

    public int soonest() {
        return least(this::time);
    }

    public int ith(int i) {
        if (i < 0 || i > 9) {
            return beyond();
        }
        Row row = best();
        return row == null || i >= row.locks.size() ? none() : row.locks.get(i);
    }

    public int quietest() {
        return least(() -> allRows(10).stream().filter(r -> r.out).mapToInt(r -> r.sounds).min().orElse(-1));
    }

    public int fewest() {
        return least(() -> allRows(10).stream().filter(r -> r.out).mapToInt(r -> r.locks.size()).min().orElse(-1));
    }

    public int ahead(int what) {
        if (what < 0 || what > 1) {
            return beyond();
        }
        Row row = best();
        if (row == null) {
            return none();
        }
        if (me.clock + row.takes > 99999) {
            return tell(4);
        }
        int clock = me.clock;
        int heard = me.heard;
        for (int l : row.locks) {
            off(l);
        }
        int[] answers = {me.clock, me.heard - heard};
        me.clock = clock;
        me.heard = heard;
        for (int l : row.locks) {
            on(l);
        }
        return answers[what];
    }

    public int ever() {
        int bits = 0;
        for (Row row : allRows(10)) {
            bits |= bits(row.locks);
        }
        return bits;
    }

    public int states() {
        TreeSet<Integer> sets = new TreeSet<>();
        for (Row row : allRows(10)) {
            sets.add(bits(row.off));
        }
        return sets.size();
    }

    public int rows() {
        return (int) allRows(10).stream().filter(r -> r.out && !r.outAhead).count();
    }

    public int tools() {
        int was = me.rules[0];
        int best = -1;
        for (int tools = 15; tools >= 0; tools--) {
            me.rules[0] = tools;
            if (time() >= 0 && (best < 0 || Integer.bitCount(tools) <= Integer.bitCount(best))) {
                best = tools;
            }
        }
        me.rules[0] = was;
        return best < 0 ? none() : best;
    }

    public int spare() {
        int was = me.rules[1];
        int best = -1;
        for (int spare = 40; spare >= 0; spare--) {
            me.rules[1] = spare;
            best = time() >= 0 ? spare : best;
        }
        me.rules[1] = was;
        return best < 0 ? none() : best;
    }

    public int wire() {
        int best = -1;
        int least = Integer.MAX_VALUE;
        for (int l = me.locks.size() - 1; l >= 0; l--) {
            if (me.locks.get(l).on) {
                me.locks.get(l).on = false;
                int time = time();
                me.locks.get(l).on = true;
                if (time >= 0 && time <= least) {
                    least = time;
                    best = l;
                }
            }
        }
        return best < 0 ? none() : best;
    }

    public int kindFor(int lock) {
        if (!is(lock)) {
            return beyond();
        }
        int was = me.locks.get(lock).is[KIND];
        int best = -1;
        int least = Integer.MAX_VALUE;
        for (int kind = 6; kind >= 0; kind--) {
            me.locks.get(lock).is[KIND] = kind;
            int time = time();
            if (time >= 0 && time <= least) {
                least = time;
                best = kind;
            }
        }
        me.locks.get(lock).is[KIND] = was;
        return best < 0 ? none() : best;
    }

    private int[] bestLink() {
        int[] best = {-1, -1};
        for (int a = me.locks.size() - 1; a >= 0; a--) {
            for (int b = me.locks.size() - 1; b >= 0; b--) {
                int after = me.locks.get(a).is[AFTER];
                if (a != b && (after & 1 << b) == 0) {
                    me.locks.get(a).is[AFTER] = after | 1 << b;
                    int time = time();
                    me.locks.get(a).is[AFTER] = after;
                    if (time >= 0 && time >= best[1]) {
                        best = new int[] {10 * a + b, time};
                    }
                }
            }
        }
        return best;
    }

    public int link() {
        return least(() -> bestLink()[0]);
    }

    public int linked() {
        return least(() -> bestLink()[1]);
    }

    public int spared() {
        int was = me.rules[2];
        int best = -1;
        int least = Integer.MAX_VALUE;
        for (int l = me.locks.size() - 1; l >= 0; l--) {
            if ((was & 1 << l) != 0) {
                me.rules[2] = was - (1 << l);
                int time = time();
                if (time >= 0 && time <= least) {
                    least = time;
                    best = l;
                }
            }
        }
        me.rules[2] = was;
        return best < 0 ? none() : best;
    }

    public long surest(int what) {
        if (what < 0 || what > 1) {
            return beyond();
        }
        BigInteger above = null;
        BigInteger below = null;
        for (Row row : allRows(10)) {
            BigInteger a = BigInteger.ONE;
            BigInteger b = BigInteger.ONE;
            for (int l : row.locks) {
                a = a.multiply(BigInteger.valueOf(10 - me.locks.get(l).is[WEAK]));
                b = b.multiply(BigInteger.TEN);
            }
            if (row.out && (above == null || a.multiply(below).compareTo(above.multiply(b)) > 0)) {
                above = a;
                below = b;
            }
        }
        if (above == null) {
            return none();
        }
        BigInteger divisor = above.gcd(below);
        return (what == 0 ? above : below).divide(divisor).longValueExact();
    }

    private List<Row> fitting(int s) {
        int most = Math.min(8, sheets[s].length);
        List<Integer> want = new ArrayList<>();
        for (int i = 0; i < most; i++) {
            want.add(sheets[s][i]);
        }
        List<Row> fit = new ArrayList<>();
        for (Row row : allRows(most)) {
            if (row.each.equals(want)) {
                fit.add(row);
            }
        }
        return fit;
    }

    private boolean noSheet(int s) {
        return s < 0 || s > 3;
    }

    public int fits(int s) {
        if (noSheet(s)) {
            return beyond();
        }
        return sheets[s] == null ? tell(5) : fitting(s).size();
    }

    public int maybe(int s) {
        if (noSheet(s)) {
            return beyond();
        }
        if (sheets[s] == null) {
            return tell(5);
        }
        TreeSet<Integer> any = new TreeSet<>();
        for (Row row : fitting(s)) {
            any.addAll(row.off);
        }
        return fitting(s).isEmpty() ? none() : bits(any);
    }

    public int surely(int s) {
        if (noSheet(s)) {
            return beyond();
        }
        if (sheets[s] == null) {
            return tell(5);
        }
        if (fitting(s).isEmpty()) {
            return none();
        }
        TreeSet<Integer> all = new TreeSet<>(fitting(s).get(0).off);
        for (Row row : fitting(s)) {
            all.retainAll(row.off);
        }
        return bits(all);
    }

    public int hear(int v) {
        if (v < 0 || v > 99) {
            return beyond();
        }
        int bits = 0;
        for (int l = 0; l < me.locks.size(); l++) {
            bits += reason(l) == 0 && sounds(l) == v ? 1 << l : 0;
        }
        return bits;
    }

    private int draw() {
        me.z = me.z * 1103515245 + 12345;
        return me.z >>> 8;
    }

    public int friday(int n) {
        if (n < 1 || n > 20) {
            return beyond();
        }
        if (me.locks.isEmpty()) {
            return tell(4);
        }
        shut();
        int steps = 0;
        for (int i = 0; i < n && !out(); i++) {
            List<Integer> can = new ArrayList<>();
            for (int l = 0; l < me.locks.size(); l++) {
                if (reason(l) == 0) {
                    can.add(l);
                }
            }
            if (!can.isEmpty()) {
                int lock = can.get(draw() % can.size());
                if (draw() % 10 >= me.locks.get(lock).is[WEAK]) {
                    off(lock);
                    steps++;
                }
            }
        }
        return steps;
    }

    public int seed(int v) {
        int was = me.z;
        me.z = v;
        return was;
    }

    public int feed(int bytes, int n) {
        if (n < 1 || n > 4) {
            return beyond();
        }
        if (tape.length() + n > 120) {
            return tell(1);
        }
        for (int i = 4 - n; i < 4; i++) {
            tape.append((char) (bytes << 8 * i >>> 24));
        }
        return tape.length();
    }

    public int wipe() {
        int had = tape.length();
        tape.setLength(0);
        return had;
    }

    public int text() {
        int answer = new ModelText(tape.toString(), me.locks.size()).read();
        if (answer >= 0) {
            apply(tape.toString());
        }
        tape.setLength(0);
        return answer;
    }

    /** Only texts without a FAULT come here, so cutting at signs and between words does. */
    private void apply(String text) {
        for (String item : text.split(";")) {
            String[] parts = item.replaceAll("([a-z]+|[0-9]+)", " $1 ").trim().split(" +");
            int rule = List.of("tools", "spare", "goal").indexOf(parts[0]);
            if (rule >= 0) {
                rule(rule, Integer.parseInt(parts[1]));
                continue;
            }
            int lock = lock(List.of("lock", "rope", "chain", "old", "rusted", "nail", "bolt").indexOf(parts[0]));
            List<String> names = List.of("", "time", "gives", "wants", "binds", "hands", "", "", "after");
            for (int i = 1; i < parts.length; i += 2) {
                change(lock, names.indexOf(parts[i]), Integer.parseInt(parts[i + 1]));
            }
        }
    }

    public int hold(int spot, int lock) {
        if (spot < 0 || spot > 9 || lock != -1 && !is(lock)) {
            return beyond();
        }
        me.spots[spot] = lock;
        return 1;
    }

    public int as(int spot, int kind) {
        if (spot < 0 || spot > 9 || kind < 0 || kind > 6) {
            return beyond();
        }
        if (me.spots[spot] < 0) {
            return tell(5);
        }
        int[][] over = {{0}, {1, 0}, {2, 0}, {3, 2, 0}, {4, 3, 2, 0}, {5, 1, 0}, {6, 0}};
        for (int k : over[me.locks.get(me.spots[spot]).is[KIND]]) {
            if (k == kind) {
                return me.spots[spot];
            }
        }
        return tell(2);
    }

    public int sheet(int s, int bits, int n) {
        if (noSheet(s) || !List.of(0, 8, 16, 32).contains(bits)) {
            return beyond();
        }
        if (n < 0) {
            return tell(6);
        }
        if (n > 40) {
            return beyond();
        }
        sheets[s] = bits == 0 ? null : new int[n];
        widths[s] = bits;
        return bits == 0 ? 0 : n;
    }

    public int write(int s, int i, int v) {
        if (noSheet(s)) {
            return beyond();
        }
        if (sheets[s] == null) {
            return tell(5);
        }
        if (i < 0 || i >= sheets[s].length) {
            return beyond();
        }
        sheets[s][i] = v << 32 - widths[s] >> 32 - widths[s];
        return 1;
    }

    public int copy(int s, int from, int t, int to, int n) {
        if (noSheet(s) || noSheet(t)) {
            return beyond();
        }
        if (sheets[s] == null || sheets[t] == null) {
            return tell(5);
        }
        if (widths[s] != widths[t]) {
            return tell(2);
        }
        if (from < 0 || to < 0 || n < 0
                || (long) from + n > sheets[s].length || (long) to + n > sheets[t].length) {
            return beyond();
        }
        int[] were = sheets[s].clone();
        for (int i = 0; i < n; i++) {
            sheets[t][to + i] = were[from + i];
        }
        return n;
    }

    public int load(int s) {
        if (noSheet(s)) {
            return beyond();
        }
        if (sheets[s] == null) {
            return tell(5);
        }
        int came = 0;
        while (came < sheets[s].length && is(came) && sheets[s][came] >= 1 && sheets[s][came] <= 60) {
            me.locks.get(came).is[TIME] = sheets[s][came];
            came++;
        }
        return came;
    }

    public int judge(int s) {
        if (noSheet(s)) {
            return beyond();
        }
        if (sheets[s] == null) {
            return tell(5);
        }
        Image was = me.copied();
        int answer = 0;
        for (int i = 0; i < sheets[s].length && answer == 0; i++) {
            int lock = sheets[s][i];
            if (!is(lock) || reason(lock) != 0) {
                answer = 1 + i;
            } else {
                me.locks.get(lock).on = false;
            }
        }
        me = was;
        return answer;
    }

    public int image() {
        kept = me.copied();
        return 1;
    }

    public int undo() {
        if (kept == null) {
            return none();
        }
        me = kept.copied();
        return me.clock;
    }

    public int tear() {
        int was = kept == null ? 0 : 1;
        kept = null;
        return was;
    }

    public int count(int what) {
        int times = 0;
        for (Lock l : me.locks) {
            times += l.is[TIME];
        }
        int held = 0;
        for (int lock : me.spots) {
            held += lock >= 0 ? 1 : 0;
        }
        int[] all = {me.clock, me.locks.size(), Integer.bitCount(offSet()), me.heard, times, tape.length(), me.z, held};
        return what < 0 || what > 7 ? beyond() : all[what];
    }

    public int status(int which) {
        if (which < -1 || which > 6) {
            return beyond();
        }
        int sum = 0;
        for (int count : told) {
            sum += count;
        }
        return which < 0 ? sum : told[which];
    }
}
