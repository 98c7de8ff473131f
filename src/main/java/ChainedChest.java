import java.util.Arrays;

/** A man locked, nailed and tied into a chest: what comes off when, and how he gets out (see README.md). */
public final class ChainedChest {
    private static final int LOW = -1000001;
    private static final int BEYOND = LOW;
    private static final int FULL = LOW - 1;
    private static final int OTHER_KIND = LOW - 2;
    private static final int NONE = LOW - 3;
    private static final int STATE = LOW - 4;
    private static final int MISSING = LOW - 5;
    private static final int SIZE = LOW - 6;
    private static final int FINDINGS = 7;

    private static final int MOST_SOUND = 99;
    private static final int MOST_TRIES = 20;
    private static final int SHEETS = 4;

    private final Chest chest = new Chest();
    private final Chest kept = new Chest();
    private final Chest draft = new Chest();
    private final Ways ways = new Ways(chest);
    private final Smith smith = new Smith(chest, ways);
    private final Tape tape = new Tape();
    private final Sheet[] sheets = new Sheet[SHEETS];
    private final int[] told = new int[FINDINGS];
    private boolean isKept = false;

    public ChainedChest() {
        for (int s = 0; s < SHEETS; s++) {
            sheets[s] = new Sheet();
        }
    }

    // ---- locks, the man

    public int lock(int kind) {
        if (!Chest.isKind(kind)) {
            return tell(BEYOND);
        }
        if (chest.locks >= Chest.MOST_LOCKS) {
            return tell(FULL);
        }
        return chest.add(kind);
    }

    public int of(int lock, int what) {
        if (!chest.has(lock) || what < 0 || what > 12) {
            return tell(BEYOND);
        }
        if (what == 10) {
            return chest.isOff(lock) ? 0 : 1;
        }
        if (what == 11) {
            return chest.takesNow(lock);
        }
        return what == 12 ? chest.sounds(lock) : chest.trait(what, lock);
    }

    public int change(int lock, int what, int v) {
        if (!chest.has(lock) || !chest.allows(what, v)) {
            return tell(BEYOND);
        }
        return chest.putTrait(what, lock, v);
    }

    public int rule(int what, int v) {
        if (!chest.allowsRule(what, v)) {
            return tell(BEYOND);
        }
        return chest.putRule(what, v);
    }

    public int on(int lock) {
        if (!chest.has(lock)) {
            return tell(BEYOND);
        }
        int was = chest.isOff(lock) ? 1 : 0;
        chest.open &= ~(1 << lock);
        return was;
    }

    public int shut() {
        return chest.shutAll();
    }

    public int may() {
        return chest.mayAt(chest.open);
    }

    public int why(int lock) {
        if (!chest.has(lock)) {
            return tell(BEYOND);
        }
        return chest.reasonNow(lock);
    }

    // ---- steps

    public int off(int lock) {
        if (!chest.has(lock)) {
            return tell(BEYOND);
        }
        int takes = chest.takesNow(lock);
        if (chest.reasonNow(lock) != Chest.MAY || chest.clock > Chest.MOST_CLOCK - takes) {
            return tell(STATE);
        }
        chest.step(lock);
        return takes;
    }

    public int now(int what) {
        switch (what) {
            case 0: return chest.clock;
            case 1: return chest.heard;
            case 2: return chest.open;
            case 3: return chest.slackAt(chest.open);
            case 4: return chest.freeAt(chest.open);
            case 5: return chest.isOutAt(chest.open) ? 1 : 0;
            case 6: return chest.playsAt(chest.clock) ? 1 : 0;
            default: return tell(BEYOND);
        }
    }

    // ---- ways out (nothing changes)

    public int soonest() {
        return orNone(ways.leastFrom(chest.open, Ways.TIME));
    }

    public int ith(int i) {
        if (i < 0 || i >= Chest.MOST_LOCKS) {
            return tell(BEYOND);
        }
        if (!ways.findRow(chest.open) || i >= ways.rowLength()) {
            return tell(NONE);
        }
        return ways.rowLock(i);
    }

    public int quietest() {
        return orNone(ways.leastFrom(chest.open, Ways.SOUND));
    }

    public int fewest() {
        return orNone(ways.leastFrom(chest.open, Ways.STEPS));
    }

    public int ahead(int what) {
        if (what < 0 || what > 1) {
            return tell(BEYOND);
        }
        if (!ways.findRow(chest.open)) {
            return tell(NONE);
        }
        int end = ways.rowEnd();
        if (end > Chest.MOST_CLOCK) {
            return tell(STATE);
        }
        return what == 0 ? end : ways.rowHeard();
    }

    public int ever() {
        return ways.everOff();
    }

    public int states() {
        return ways.reachedStates();
    }

    public int rows() {
        return ways.waysOut();
    }

    // ---- what he needs, what smiths should do

    public int tools() {
        return orNone(smith.fewestTools());
    }

    public int spare() {
        return orNone(smith.leastSpare());
    }

    public int wire() {
        return orNone(smith.bestWire());
    }

    public int kindFor(int lock) {
        if (!chest.has(lock)) {
            return tell(BEYOND);
        }
        return orNone(smith.bestKind(lock));
    }

    public int link() {
        smith.findLink();
        return orNone(smith.linkPair());
    }

    public int linked() {
        smith.findLink();
        return orNone(smith.linkTime());
    }

    public int spared() {
        return orNone(smith.bestSpared());
    }

    public long surest(int what) {
        if (what < 0 || what > 1) {
            return tell(BEYOND);
        }
        long above = ways.surestTenths();
        if (above == 0) {
            return tell(NONE);
        }
        long divisor = commonDivisor(above, Ways.SURE);
        if (divisor == 0) {
            return tell(NONE);
        }
        return what == 0 ? above / divisor : Ways.SURE / divisor;
    }

    // ---- sounds

    public int fits(int s) {
        int finding = sheetFinding(s);
        if (finding != 0) {
            return tell(finding);
        }
        ways.listen(sheets[s]);
        return ways.fittingRows();
    }

    public int maybe(int s) {
        int finding = sheetFinding(s);
        if (finding != 0) {
            return tell(finding);
        }
        ways.listen(sheets[s]);
        return ways.fittingRows() == 0 ? tell(NONE) : ways.fittingAny();
    }

    public int surely(int s) {
        int finding = sheetFinding(s);
        if (finding != 0) {
            return tell(finding);
        }
        ways.listen(sheets[s]);
        return ways.fittingRows() == 0 ? tell(NONE) : ways.fittingAll();
    }

    public int hear(int v) {
        if (v < 0 || v > MOST_SOUND) {
            return tell(BEYOND);
        }
        int set = chest.mayAt(chest.open);
        for (int l = 0; l < chest.locks; l++) {
            if (chest.sounds(l) != v) {
                set &= ~(1 << l);
            }
        }
        return set;
    }

    // ---- draws

    public int friday(int n) {
        if (n < 1 || n > MOST_TRIES) {
            return tell(BEYOND);
        }
        if (chest.locks == 0) {
            return tell(STATE);
        }
        return chest.tryFriday(n);
    }

    public int seed(int v) {
        int was = chest.z;
        chest.z = v;
        return was;
    }

    // ---- texts

    public int feed(int bytes, int n) {
        if (n < 1 || n > 4) {
            return tell(BEYOND);
        }
        if (n > Tape.MOST - tape.size()) {
            return tell(FULL);
        }
        return tape.put(bytes, n);
    }

    public int wipe() {
        return tape.clear();
    }

    public int text() {
        draft.become(chest);
        int answer = tape.read(draft);
        if (answer >= 0) {
            chest.become(draft);
        }
        tape.clear();
        return answer;
    }

    // ---- spots, sheets

    public int hold(int spot, int lock) {
        if (!Chest.isSpot(spot) || lock != Chest.NOTHING && !chest.has(lock)) {
            return tell(BEYOND);
        }
        chest.putSpot(spot, lock);
        return 1;
    }

    public int as(int spot, int kind) {
        if (!Chest.isSpot(spot) || !Chest.isKind(kind)) {
            return tell(BEYOND);
        }
        int lock = chest.atSpot(spot);
        if (lock == Chest.NOTHING) {
            return tell(MISSING);
        }
        return Chest.isUnder(chest.trait(Chest.KIND, lock), kind) ? lock : tell(OTHER_KIND);
    }

    public int sheet(int s, int bits, int n) {
        if (!isSheet(s) || !Sheet.isWidth(bits)) {
            return tell(BEYOND);
        }
        if (n < 0) {
            return tell(SIZE);
        }
        if (n > Sheet.MOST) {
            return tell(BEYOND);
        }
        return sheets[s].begin(bits, n);
    }

    public int write(int s, int i, int v) {
        int finding = sheetFinding(s);
        if (finding != 0) {
            return tell(finding);
        }
        if (!sheets[s].has(i)) {
            return tell(BEYOND);
        }
        sheets[s].put(i, v);
        return 1;
    }

    public int copy(int s, int from, int t, int to, int n) {
        if (!isSheet(s) || !isSheet(t)) {
            return tell(BEYOND);
        }
        if (sheets[s].isMissing() || sheets[t].isMissing()) {
            return tell(MISSING);
        }
        if (!sheets[s].isLike(sheets[t])) {
            return tell(OTHER_KIND);
        }
        if (!sheets[s].hasRun(from, n) || !sheets[t].hasRun(to, n)) {
            return tell(BEYOND);
        }
        sheets[s].copyTo(from, sheets[t], to, n);
        return n;
    }

    public int load(int s) {
        int finding = sheetFinding(s);
        if (finding != 0) {
            return tell(finding);
        }
        return chest.loadTimes(sheets[s]);
    }

    public int judge(int s) {
        int finding = sheetFinding(s);
        if (finding != 0) {
            return tell(finding);
        }
        return chest.firstBarred(sheets[s]);
    }

    // ---- images

    public int image() {
        kept.become(chest);
        isKept = true;
        return 1;
    }

    public int undo() {
        if (!isKept) {
            return tell(NONE);
        }
        chest.become(kept);
        return chest.clock;
    }

    public int tear() {
        int was = isKept ? 1 : 0;
        isKept = false;
        return was;
    }

    public int count(int what) {
        switch (what) {
            case 0: return chest.clock;
            case 1: return chest.locks;
            case 2: return Integer.bitCount(chest.open);
            case 3: return chest.heard;
            case 4: return chest.allTimes();
            case 5: return tape.size();
            case 6: return chest.z;
            case 7: return chest.heldSpots();
            default: return tell(BEYOND);
        }
    }

    public int status(int which) {
        if (which < -1 || which >= FINDINGS) {
            return tell(BEYOND);
        }
        if (which >= 0) {
            return told[which];
        }
        int all = 0;
        for (int i = 0; i < FINDINGS; i++) {
            all += told[i];
        }
        return all;
    }

    private int tell(int finding) {
        int which = LOW - finding;
        if (which >= 0 && which < FINDINGS) {
            told[which]++;
        }
        return finding;
    }

    private int orNone(int answer) {
        return answer == Ways.NO_WAY ? tell(NONE) : answer;
    }

    private boolean isSheet(int s) {
        return s >= 0 && s < SHEETS;
    }

    private int sheetFinding(int s) {
        if (!isSheet(s)) {
            return BEYOND;
        }
        return sheets[s].isMissing() ? MISSING : 0;
    }

    private static long commonDivisor(long a, long b) {
        long high = a;
        long low = b;
        for (int i = 0; i < 200 && low != 0; i++) {
            long rest = high % low;
            high = low;
            low = rest;
        }
        return high;
    }

    /** All that an image keeps: the locks, the man, the band, the draws and the spots. */
    private static final class Chest {
        static final int MOST_LOCKS = 10;
        static final int MOST_CLOCK = 99999;
        static final int NOTHING = -1;

        static final int KIND = 0;
        static final int TIME = 1;
        static final int GIVES = 2;
        static final int WANTS = 3;
        static final int BINDS = 4;
        static final int HANDS = 5;
        static final int TOOL = 6;
        static final int WEAK = 7;
        static final int AFTER = 8;
        static final int WITH = 9;
        private static final int TRAITS = 10;
        private static final int[] LEAST_TRAIT = {0, 1, 0, 0, 0, 0, 0, 0, 0, 0};
        private static final int[] MOST_TRAIT = {6, 60, 9, 40, 3, 2, 4, 9, 1023, 1023};
        private static final int[] FIRST_TRAIT = {0, 10, 0, 0, 0, 1, 0, 0, 0, 0};

        static final int TOOLS = 0;
        static final int SPARE = 1;
        static final int GOAL = 2;
        private static final int MARCH = 3;
        private static final int STILL = 4;
        private static final int RULES = 5;
        private static final int[] MOST_RULE = {15, 40, 1023, 60, 60};
        private static final int[] FIRST_RULE = {0, 0, 0, 5, 5};

        static final int LOCK = 0;
        static final int ROPE = 1;
        static final int CHAIN = 2;
        static final int OLD = 3;
        static final int RUSTED = 4;
        static final int NAIL = 5;
        static final int BOLT = 6;
        static final int KINDS = 7;
        private static final int[] PARENT = {-1, LOCK, LOCK, CHAIN, OLD, ROPE, LOCK};

        static final int MAY = 0;
        private static final int IS_OFF = 1;
        private static final int WANTS_SLACK = 2;
        private static final int WANTS_HANDS = 3;
        private static final int WANTS_TOOL = 4;
        private static final int WANTS_OFF = 5;
        private static final int WANTS_ON = 6;

        private static final int ALL_HANDS = 3;
        private static final int SPOTS = 10;

        private final int[][] traits = new int[TRAITS][MOST_LOCKS];
        private final int[] rules = new int[RULES];
        private final int[] spots = new int[SPOTS];
        int locks = 0;
        int open = 0;
        int clock = 0;
        int heard = 0;
        int z = 1;

        Chest() {
            System.arraycopy(FIRST_RULE, 0, rules, 0, RULES);
            Arrays.fill(spots, NOTHING);
        }

        void become(Chest other) {
            for (int what = 0; what < TRAITS; what++) {
                System.arraycopy(other.traits[what], 0, traits[what], 0, MOST_LOCKS);
            }
            System.arraycopy(other.rules, 0, rules, 0, RULES);
            System.arraycopy(other.spots, 0, spots, 0, SPOTS);
            locks = other.locks;
            open = other.open;
            clock = other.clock;
            heard = other.heard;
            z = other.z;
        }

        static boolean isKind(int kind) {
            return kind >= 0 && kind < KINDS;
        }

        static boolean isUnder(int kind, int above) {
            int k = kind;
            for (int i = 0; i < KINDS && isKind(k); i++) {
                if (k == above) {
                    return true;
                }
                k = PARENT[k];
            }
            return false;
        }

        boolean has(int lock) {
            return lock >= 0 && lock < locks && lock < MOST_LOCKS;
        }

        int allLocks() {
            return (1 << locks) - 1;
        }

        int add(int kind) {
            int lock = locks;
            if (lock < 0 || lock >= MOST_LOCKS) {
                return NOTHING;
            }
            for (int what = 0; what < TRAITS; what++) {
                traits[what][lock] = FIRST_TRAIT[what];
            }
            traits[KIND][lock] = kind;
            locks++;
            return lock;
        }

        int trait(int what, int lock) {
            return isTrait(what) && has(lock) ? traits[what][lock] : 0;
        }

        private static boolean isTrait(int what) {
            return what >= 0 && what < TRAITS;
        }

        boolean allows(int what, int v) {
            if (!isTrait(what)) {
                return false;
            }
            int most = what == AFTER || what == WITH ? allLocks() : MOST_TRAIT[what];
            return v >= LEAST_TRAIT[what] && v <= most;
        }

        int putTrait(int what, int lock, int v) {
            if (!isTrait(what) || !has(lock)) {
                return 0;
            }
            int was = traits[what][lock];
            traits[what][lock] = v;
            return was;
        }

        private static boolean isRule(int what) {
            return what >= 0 && what < RULES;
        }

        boolean allowsRule(int what, int v) {
            if (!isRule(what)) {
                return false;
            }
            int most = what == GOAL ? allLocks() : MOST_RULE[what];
            return v >= 0 && v <= most;
        }

        int putRule(int what, int v) {
            if (!isRule(what)) {
                return 0;
            }
            int was = rules[what];
            rules[what] = v;
            return was;
        }

        int goal() {
            return rules[GOAL];
        }

        boolean isOff(int lock) {
            return (open >> lock & 1) != 0;
        }

        int shutAll() {
            int were = Integer.bitCount(open);
            open = 0;
            clock = 0;
            heard = 0;
            return were;
        }

        int slackAt(int off) {
            int slack = rules[SPARE];
            for (int l = 0; l < locks && l < MOST_LOCKS; l++) {
                if ((off >> l & 1) != 0) {
                    slack += traits[GIVES][l];
                }
            }
            return slack;
        }

        int freeAt(int off) {
            int bound = 0;
            for (int l = 0; l < locks && l < MOST_LOCKS; l++) {
                if ((off >> l & 1) == 0) {
                    bound |= traits[BINDS][l];
                }
            }
            return ALL_HANDS & ~bound;
        }

        boolean isOutAt(int off) {
            return (rules[GOAL] & ~off) == 0;
        }

        boolean playsAt(int minute) {
            int turn = rules[MARCH] + rules[STILL];
            return turn > 0 && minute % turn < rules[MARCH];
        }

        int mayAt(int off) {
            return mayWith(off, slackAt(off), Integer.bitCount(freeAt(off)));
        }

        int mayWith(int off, int slack, int hands) {
            int set = 0;
            for (int l = 0; l < locks && l < MOST_LOCKS; l++) {
                if (reason(l, off, slack, hands) == MAY) {
                    set |= 1 << l;
                }
            }
            return set;
        }

        int reasonNow(int lock) {
            return reason(lock, open, slackAt(open), Integer.bitCount(freeAt(open)));
        }

        private int reason(int lock, int off, int slack, int hands) {
            if (!has(lock) || (off >> lock & 1) != 0) {
                return IS_OFF;
            }
            if (slack < traits[WANTS][lock]) {
                return WANTS_SLACK;
            }
            if (hands < traits[HANDS][lock]) {
                return WANTS_HANDS;
            }
            int tool = traits[TOOL][lock];
            if (tool > 0 && (rules[TOOLS] >> tool - 1 & 1) == 0) {
                return WANTS_TOOL;
            }
            if ((traits[AFTER][lock] & ~off) != 0) {
                return WANTS_OFF;
            }
            return (traits[WITH][lock] & ~(1 << lock) & off) != 0 ? WANTS_ON : MAY;
        }

        int takesNow(int lock) {
            return takes(lock, slackAt(open), Integer.bitCount(freeAt(open)), Integer.bitCount(open));
        }

        int takes(int lock, int slack, int hands, int howManyOff) {
            if (lock < 0 || lock >= MOST_LOCKS) {
                return 0;
            }
            int time = traits[TIME][lock];
            int rope = time > slack ? time - slack : 1;
            int chain = time + 3 * howManyOff;
            int old = chain > 1 ? chain / 2 : 1;
            switch (traits[KIND][lock]) {
                case ROPE: return rope;
                case NAIL: return rope + 2;
                case CHAIN: return chain;
                case OLD: return old;
                case RUSTED: return old + 4;
                case BOLT: return hands < 2 ? 2 * time : time;
                default: return time;
            }
        }

        int sounds(int lock) {
            if (!has(lock)) {
                return 0;
            }
            int chain = traits[TIME][lock] / 2;
            switch (traits[KIND][lock]) {
                case ROPE: return 0;
                case NAIL: return 4;
                case CHAIN: return chain;
                case OLD: return chain + 1;
                case RUSTED: return 2 * (chain + 1);
                default: return 2;
            }
        }

        /** Asks nothing: whoever calls has asked that the lock MAY and that CLOCK can bear it. */
        void step(int lock) {
            int takes = takesNow(lock);
            if (!playsAt(clock)) {
                heard += sounds(lock);
            }
            clock += takes;
            open |= 1 << lock;
        }

        private int draw() {
            z = z * 1103515245 + 12345;
            return z >>> 8;
        }

        int tryFriday(int tries) {
            shutAll();
            int steps = 0;
            for (int i = 0; i < tries && !isOutAt(open); i++) {
                int set = mayAt(open);
                int many = Integer.bitCount(set);
                if (many == 0) {
                    return steps;
                }
                int lock = nth(set, draw() % many);
                // The second draw is made whatever WEAK is: the document tells it of each try.
                boolean holds = draw() % 10 < trait(WEAK, lock);
                if (!holds) {
                    step(lock);
                    steps++;
                }
            }
            return steps;
        }

        private static int nth(int set, int n) {
            int left = n;
            for (int l = 0; l < MOST_LOCKS; l++) {
                if ((set >> l & 1) != 0) {
                    if (left == 0) {
                        return l;
                    }
                    left--;
                }
            }
            return 0;
        }

        static boolean isSpot(int spot) {
            return spot >= 0 && spot < SPOTS;
        }

        void putSpot(int spot, int lock) {
            if (isSpot(spot)) {
                spots[spot] = lock;
            }
        }

        int atSpot(int spot) {
            return isSpot(spot) ? spots[spot] : NOTHING;
        }

        int heldSpots() {
            int held = 0;
            for (int i = 0; i < SPOTS; i++) {
                if (spots[i] != NOTHING) {
                    held++;
                }
            }
            return held;
        }

        int allTimes() {
            int sum = 0;
            for (int l = 0; l < locks && l < MOST_LOCKS; l++) {
                sum += traits[TIME][l];
            }
            return sum;
        }

        int loadTimes(Sheet sheet) {
            int came = 0;
            for (int l = 0; l < locks && l < MOST_LOCKS; l++) {
                if (!sheet.has(l) || !allows(TIME, sheet.number(l))) {
                    return came;
                }
                traits[TIME][l] = sheet.number(l);
                came++;
            }
            return came;
        }

        int firstBarred(Sheet sheet) {
            int off = open;
            for (int i = 0; i < sheet.length(); i++) {
                int lock = sheet.number(i);
                if (!has(lock) || (mayAt(off) >> lock & 1) == 0) {
                    return 1 + i;
                }
                off |= 1 << lock;
            }
            return 0;
        }
    }

    /** The states (sets of LOCKS that are OFF) that can be come to, and rows of STEPS through them. */
    private static final class Ways {
        static final int TIME = 0;
        static final int SOUND = 1;
        static final int STEPS = 2;
        static final int NO_WAY = 2147483647;
        /** Odds are told in parts of this: ten tenths for each of ten LOCKS, so that no quotient is cut. */
        static final long SURE = 10000000000L;
        private static final int UNREACHED = -1;
        private static final int STATES = 1 << Chest.MOST_LOCKS;
        private static final int HEARD_STEPS = 8;

        private final Chest chest;
        private final int[] mays = new int[STATES];
        private final int[] slacks = new int[STATES];
        private final int[] hands = new int[STATES];
        private final int[] sums = new int[STATES];
        private final int[] linkedSums = new int[STATES];
        private final int[] row = new int[Chest.MOST_LOCKS];
        private int rowLength = 0;
        private int rowTime = 0;
        private int fittingRows = 0;
        private int fittingAny = 0;
        private int fittingAll = 0;

        Ways(Chest chest) {
            this.chest = chest;
        }

        /** A STEP only adds to the set that is OFF, so a state's followers all have greater numbers. */
        void explore(int start) {
            int last = chest.allLocks();
            Arrays.fill(mays, UNREACHED);
            if (!isState(start)) {
                return;
            }
            mays[start] = 0;
            for (int s = start; s <= last && s < STATES; s++) {
                if (mays[s] != UNREACHED) {
                    slacks[s] = chest.slackAt(s);
                    hands[s] = Integer.bitCount(chest.freeAt(s));
                    mays[s] = chest.mayWith(s, slacks[s], hands[s]);
                    markFollowers(s, mays[s]);
                }
            }
        }

        private void markFollowers(int s, int set) {
            for (int l = 0; l < Chest.MOST_LOCKS; l++) {
                int next = s | 1 << l;
                if ((set >> l & 1) != 0 && isState(next)) {
                    mays[next] = 0;
                }
            }
        }

        private static boolean isState(int s) {
            return s >= 0 && s < STATES;
        }

        int leastFrom(int start, int measure) {
            explore(start);
            return settle(start, measure);
        }

        /** The least sum from each explored state on: the WAYS OUT from its followers are settled ahead of it. */
        int settle(int start, int measure) {
            if (!isState(start)) {
                return NO_WAY;
            }
            for (int s = STATES - 1; s >= start; s--) {
                if (mays[s] != UNREACHED) {
                    sums[s] = chest.isOutAt(s) ? 0 : leastOn(s, mays[s], measure, sums);
                }
            }
            return sums[start];
        }

        /**
         * The least time once a waits for b, of what is settled by TIME.
         * Only where both are ON does the link bar a STEP: the other states keep their sums.
         */
        int settleLinked(int start, int a, int b) {
            if (!isState(start)) {
                return NO_WAY;
            }
            int both = 1 << a | 1 << b;
            for (int s = STATES - 1; s >= start; s--) {
                if (mays[s] != UNREACHED) {
                    boolean barred = (s & both) == 0 && !chest.isOutAt(s);
                    linkedSums[s] = barred ? leastOn(s, mays[s] & ~(1 << a), TIME, linkedSums) : sums[s];
                }
            }
            return linkedSums[start];
        }

        private int leastOn(int s, int set, int measure, int[] rests) {
            int least = NO_WAY;
            int howManyOff = Integer.bitCount(s);
            for (int l = 0; l < Chest.MOST_LOCKS; l++) {
                int next = s | 1 << l;
                if ((set >> l & 1) != 0 && next >= 0 && next < rests.length && rests[next] != NO_WAY) {
                    int sum = rests[next] + cost(l, s, howManyOff, measure);
                    least = sum < least ? sum : least;
                }
            }
            return least;
        }

        private int cost(int lock, int s, int howManyOff, int measure) {
            if (!isState(s)) {
                return 0;
            }
            switch (measure) {
                case TIME: return chest.takes(lock, slacks[s], hands[s], howManyOff);
                case SOUND: return chest.sounds(lock);
                default: return 1;
            }
        }

        boolean findRow(int start) {
            rowLength = 0;
            rowTime = leastFrom(start, TIME);
            if (rowTime == NO_WAY) {
                return false;
            }
            int s = start;
            for (int i = 0; i < Chest.MOST_LOCKS && !chest.isOutAt(s); i++) {
                int lock = firstBest(s);
                if (lock < 0) {
                    return false;
                }
                row[i] = lock;
                rowLength = i + 1;
                s |= 1 << lock;
            }
            return true;
        }

        private int firstBest(int s) {
            int howManyOff = Integer.bitCount(s);
            for (int l = 0; l < Chest.MOST_LOCKS && isState(s); l++) {
                int next = s | 1 << l;
                boolean leadsOut = (mays[s] >> l & 1) != 0 && isState(next) && sums[next] != NO_WAY;
                if (leadsOut && sums[next] + cost(l, s, howManyOff, TIME) == sums[s]) {
                    return l;
                }
            }
            return Chest.NOTHING;
        }

        int rowLength() {
            return rowLength;
        }

        int rowLock(int i) {
            return i >= 0 && i < rowLength && i < Chest.MOST_LOCKS ? row[i] : 0;
        }

        int rowEnd() {
            return chest.clock + rowTime;
        }

        int rowHeard() {
            int s = chest.open;
            int minute = chest.clock;
            int heard = 0;
            for (int i = 0; i < rowLength && i < Chest.MOST_LOCKS; i++) {
                if (!chest.playsAt(minute)) {
                    heard += chest.sounds(row[i]);
                }
                minute += cost(row[i], s, Integer.bitCount(s), TIME);
                s |= 1 << row[i];
            }
            return heard;
        }

        int everOff() {
            explore(chest.open);
            int set = 0;
            for (int s = 0; s < STATES; s++) {
                if (mays[s] != UNREACHED) {
                    set |= mays[s];
                }
            }
            return set;
        }

        int reachedStates() {
            explore(chest.open);
            int reached = 0;
            for (int s = 0; s < STATES; s++) {
                if (mays[s] != UNREACHED) {
                    reached++;
                }
            }
            return reached;
        }

        boolean hasWayOut(int start) {
            explore(start);
            for (int s = 0; s < STATES; s++) {
                if (mays[s] != UNREACHED && chest.isOutAt(s)) {
                    return true;
                }
            }
            return false;
        }

        int waysOut() {
            exploreRows();
            int rows = 0;
            for (int s = 0; s < STATES; s++) {
                if (sums[s] != 0 && chest.isOutAt(s)) {
                    rows += sums[s];
                } else if (sums[s] != 0) {
                    handOn(s, mays[s]);
                }
            }
            return rows;
        }

        /** The sums are now how many rows come to a state: one, the row without STEPS, to this one. */
        private void exploreRows() {
            explore(chest.open);
            Arrays.fill(sums, 0);
            if (isState(chest.open)) {
                sums[chest.open] = 1;
            }
        }

        private void handOn(int s, int set) {
            for (int l = 0; l < Chest.MOST_LOCKS && isState(s); l++) {
                int next = s | 1 << l;
                if ((set >> l & 1) != 0 && isState(next)) {
                    sums[next] += sums[s];
                }
            }
        }

        /** In parts of SURE; 0 if there is no WAY OUT. The odds hang only on which LOCKS came off, not on their row. */
        long surestTenths() {
            explore(chest.open);
            long best = 0;
            for (int s = 0; s < STATES; s++) {
                if (mays[s] != UNREACHED && chest.isOutAt(s)) {
                    best = Math.max(best, odds(s & ~chest.open));
                }
            }
            return best;
        }

        private long odds(int set) {
            long parts = SURE;
            for (int l = 0; l < Chest.MOST_LOCKS; l++) {
                if ((set >> l & 1) != 0) {
                    parts = parts / 10 * (10 - chest.trait(Chest.WEAK, l));
                }
            }
            return parts;
        }

        void listen(Sheet sheet) {
            exploreRows();
            fittingRows = 0;
            fittingAny = 0;
            fittingAll = chest.allLocks();
            int length = Math.min(sheet.length(), HEARD_STEPS);
            for (int s = 0; s < STATES; s++) {
                int steps = Integer.bitCount(s) - Integer.bitCount(chest.open);
                if (sums[s] != 0 && steps == length) {
                    fittingRows += sums[s];
                    fittingAny |= s;
                    fittingAll &= s;
                } else if (sums[s] != 0) {
                    handOn(s, soundingOf(mays[s], sheet.number(steps)));
                }
            }
        }

        private int soundingOf(int set, int sound) {
            int sounding = 0;
            for (int l = 0; l < Chest.MOST_LOCKS; l++) {
                if ((set >> l & 1) != 0 && chest.sounds(l) == sound) {
                    sounding |= 1 << l;
                }
            }
            return sounding;
        }

        int fittingRows() {
            return fittingRows;
        }

        int fittingAny() {
            return fittingAny;
        }

        int fittingAll() {
            return fittingAll;
        }
    }

    /** Tries a change of the chest, asks for the ways out, and takes the change back. */
    private static final class Smith {
        private static final int TOOL_SETS = 16;
        private static final int MOST_SPARE = 40;

        private final Chest chest;
        private final Ways ways;
        private int linkPair = Ways.NO_WAY;
        private int linkTime = Ways.NO_WAY;

        Smith(Chest chest, Ways ways) {
            this.chest = chest;
            this.ways = ways;
        }

        int fewestTools() {
            int was = chest.putRule(Chest.TOOLS, 0);
            int best = Ways.NO_WAY;
            for (int set = 0; set < TOOL_SETS; set++) {
                if (best == Ways.NO_WAY || Integer.bitCount(set) < Integer.bitCount(best)) {
                    chest.putRule(Chest.TOOLS, set);
                    if (ways.hasWayOut(chest.open)) {
                        best = set;
                    }
                }
            }
            chest.putRule(Chest.TOOLS, was);
            return best;
        }

        int leastSpare() {
            int was = chest.putRule(Chest.SPARE, 0);
            int least = Ways.NO_WAY;
            for (int spare = 0; spare <= MOST_SPARE && least == Ways.NO_WAY; spare++) {
                chest.putRule(Chest.SPARE, spare);
                if (ways.hasWayOut(chest.open)) {
                    least = spare;
                }
            }
            chest.putRule(Chest.SPARE, was);
            return least;
        }

        int bestWire() {
            int best = Ways.NO_WAY;
            int least = Ways.NO_WAY;
            for (int l = 0; l < chest.locks; l++) {
                if (!chest.isOff(l)) {
                    int time = ways.leastFrom(chest.open | 1 << l, Ways.TIME);
                    if (time < least) {
                        least = time;
                        best = l;
                    }
                }
            }
            return best;
        }

        /** No KIND tells what MAY come off, so one exploring serves for all kinds. */
        int bestKind(int lock) {
            int was = chest.trait(Chest.KIND, lock);
            int best = Ways.NO_WAY;
            int least = Ways.NO_WAY;
            ways.explore(chest.open);
            for (int kind = 0; kind < Chest.KINDS; kind++) {
                chest.putTrait(Chest.KIND, lock, kind);
                int time = ways.settle(chest.open, Ways.TIME);
                if (time < least) {
                    least = time;
                    best = kind;
                }
            }
            chest.putTrait(Chest.KIND, lock, was);
            return best;
        }

        /** The GOAL doesn't tell what MAY come off, so one exploring serves for all. */
        int bestSpared() {
            int goal = chest.goal();
            int best = Ways.NO_WAY;
            int least = Ways.NO_WAY;
            ways.explore(chest.open);
            for (int l = 0; l < chest.locks; l++) {
                if ((goal >> l & 1) != 0) {
                    chest.putRule(Chest.GOAL, goal & ~(1 << l));
                    int time = ways.settle(chest.open, Ways.TIME);
                    if (time < least) {
                        least = time;
                        best = l;
                    }
                }
            }
            chest.putRule(Chest.GOAL, goal);
            return best;
        }

        /** A link only takes STEPS away, so one exploring serves for all links. */
        void findLink() {
            linkPair = Ways.NO_WAY;
            linkTime = Ways.NO_WAY;
            ways.leastFrom(chest.open, Ways.TIME);
            for (int a = 0; a < chest.locks; a++) {
                for (int b = 0; b < chest.locks; b++) {
                    if (a != b && (chest.trait(Chest.AFTER, a) >> b & 1) == 0) {
                        tryLink(a, b);
                    }
                }
            }
        }

        private void tryLink(int a, int b) {
            int time = ways.settleLinked(chest.open, a, b);
            if (time != Ways.NO_WAY && (linkTime == Ways.NO_WAY || time > linkTime)) {
                linkTime = time;
                linkPair = 10 * a + b;
            }
        }

        int linkPair() {
            return linkPair;
        }

        int linkTime() {
            return linkTime;
        }
    }

    /** THE TAPE, and the reading of a TEXT from it. */
    private static final class Tape {
        static final int MOST = 120;
        private static final int OPTIONS = 6;

        private static final int END = 0;
        private static final int WORD = 1;
        private static final int NUMBER = 2;
        private static final int SIGN = 3;
        private static final int BAD = 4;
        private static final int MOST_NUMBER = 1023;

        private final int[] bytes = new int[MOST];
        private int size = 0;
        private int from = 0;
        private int to = 0;
        private int token = END;
        private int value = 0;

        int size() {
            return size;
        }

        int put(int number, int n) {
            for (int i = n - 1; i >= 0 && size < MOST; i--) {
                bytes[size] = number >> 8 * i & 255;
                size++;
            }
            return size;
        }

        int clear() {
            int had = size;
            size = 0;
            return had;
        }

        /** How many ITEMS came into the chest, or -1 less the FAULT: then the chest is spoilt. */
        int read(Chest into) {
            to = 0;
            nextToken();
            for (int items = 1; items <= MOST; items++) {
                if (!readItem(into)) {
                    return -1 - from;
                }
                if (token == END) {
                    return items;
                }
                if (token != SIGN) {
                    return -1 - from;
                }
                nextToken();
            }
            return -1 - from;
        }

        private boolean readItem(Chest into) {
            for (int kind = 0; kind < Chest.KINDS; kind++) {
                if (isWord(kindWord(kind))) {
                    return readLock(into, kind);
                }
            }
            for (int what = Chest.TOOLS; what <= Chest.GOAL; what++) {
                if (isWord(ruleWord(what))) {
                    return readRule(into, what);
                }
            }
            return false;
        }

        private boolean readLock(Chest into, int kind) {
            if (into.locks >= Chest.MOST_LOCKS) {
                return false;
            }
            // Asked ahead of its own coming: AFTER may not tell of itself.
            int there = into.allLocks();
            int lock = into.add(kind);
            nextToken();
            for (int i = 0; i < OPTIONS; i++) {
                if (isWord(optionWord(i))) {
                    int what = optionTrait(i);
                    nextToken();
                    boolean stands = what == Chest.AFTER ? value <= there : into.allows(what, value);
                    if (token != NUMBER || !stands) {
                        return false;
                    }
                    into.putTrait(what, lock, value);
                    nextToken();
                }
            }
            return true;
        }

        private boolean readRule(Chest into, int what) {
            nextToken();
            if (token != NUMBER || !into.allowsRule(what, value)) {
                return false;
            }
            into.putRule(what, value);
            nextToken();
            return true;
        }

        private static String kindWord(int kind) {
            switch (kind) {
                case Chest.ROPE: return "rope";
                case Chest.CHAIN: return "chain";
                case Chest.OLD: return "old";
                case Chest.RUSTED: return "rusted";
                case Chest.NAIL: return "nail";
                case Chest.BOLT: return "bolt";
                default: return "lock";
            }
        }

        private static String ruleWord(int what) {
            switch (what) {
                case Chest.TOOLS: return "tools";
                case Chest.SPARE: return "spare";
                default: return "goal";
            }
        }

        private static String optionWord(int i) {
            switch (i) {
                case 0: return "time";
                case 1: return "gives";
                case 2: return "wants";
                case 3: return "binds";
                case 4: return "hands";
                default: return "after";
            }
        }

        private static int optionTrait(int i) {
            switch (i) {
                case 0: return Chest.TIME;
                case 1: return Chest.GIVES;
                case 2: return Chest.WANTS;
                case 3: return Chest.BINDS;
                case 4: return Chest.HANDS;
                default: return Chest.AFTER;
            }
        }

        private int byteAt(int place) {
            return place >= 0 && place < size && place < MOST ? bytes[place] : -1;
        }

        private static boolean isLetter(int sign) {
            return sign >= 'a' && sign <= 'z';
        }

        private static boolean isDigit(int sign) {
            return sign >= '0' && sign <= '9';
        }

        private void nextToken() {
            from = to;
            while (from < size && byteAt(from) == ' ') {
                from++;
            }
            to = from;
            if (from >= size) {
                token = END;
            } else if (isLetter(byteAt(from))) {
                readWord();
            } else if (isDigit(byteAt(from))) {
                readNumber();
            } else {
                token = byteAt(from) == ';' ? SIGN : BAD;
                to = from + 1;
            }
        }

        private void readWord() {
            token = WORD;
            while (to < size && isLetter(byteAt(to))) {
                to++;
            }
        }

        private void readNumber() {
            token = NUMBER;
            value = 0;
            while (to < size && isDigit(byteAt(to))) {
                // Held just above the most, so that many digits can't wrap around to a small number.
                value = Math.min(10 * value + byteAt(to) - '0', MOST_NUMBER + 1);
                to++;
            }
        }

        private boolean isWord(String word) {
            if (token != WORD || to - from != word.length()) {
                return false;
            }
            for (int i = 0; i < word.length(); i++) {
                if (byteAt(from + i) != word.charAt(i)) {
                    return false;
                }
            }
            return true;
        }
    }

    /** A row of numbers of one width, or MISSING (no bits). */
    private static final class Sheet {
        static final int MOST = 40;

        private final int[] numbers = new int[MOST];
        private int bits = 0;
        private int length = 0;

        static boolean isWidth(int bits) {
            return bits == 0 || bits == 8 || bits == 16 || bits == 32;
        }

        boolean isMissing() {
            return bits == 0;
        }

        boolean isLike(Sheet other) {
            return bits == other.bits;
        }

        int begin(int newBits, int n) {
            bits = newBits;
            length = newBits == 0 ? 0 : Math.max(0, Math.min(n, MOST));
            Arrays.fill(numbers, 0);
            return length;
        }

        int length() {
            return length;
        }

        boolean has(int i) {
            return i >= 0 && i < length && i < MOST;
        }

        boolean hasRun(int first, int n) {
            return first >= 0 && n >= 0 && first <= length && n <= length - first;
        }

        int number(int i) {
            return has(i) ? numbers[i] : 0;
        }

        void put(int i, int v) {
            if (has(i)) {
                numbers[i] = bits == 8 ? (byte) v : bits == 16 ? (short) v : v;
            }
        }

        void copyTo(int first, Sheet other, int to, int n) {
            if (hasRun(first, n) && other.hasRun(to, n)) {
                System.arraycopy(numbers, first, other.numbers, to, n);
            }
        }
    }
}
