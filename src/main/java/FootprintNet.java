import java.util.Arrays;

/**
 * Finds a net of activities from a log of traces, replays traces on nets, decides whether nets are
 * sound, and makes traces from a net.
 *
 * Every row is made in a constructor and used again, so that no call makes an object.
 */
public final class FootprintNet {
    public static final int BAD = -1;
    public static final int MANY = -2;
    public static final int WIDE = -3;
    public static final int DOUBLE = -4;

    private static final int ACTIVITIES = 7;
    private static final int SETS = 1 << ACTIVITIES;
    private static final int MOST_TRACES = 20;
    private static final int MOST_EVENTS = 15;
    private static final int MOST_PLACES = 14;
    private static final int MOST_MARKINGS = 200;

    /*
     * A marking is one long with four bits for each of the sixteen places: the source lowest, then
     * the sink, then the inner places. Four bits are enough: a firing puts at most one token into a
     * place, and no more than 15 fire one after the other in a trace; the search for reachable
     * markings stops at the first place with 8.
     */
    private static final int TOKEN_BITS = 4;
    private static final int END_PLACES = 2;
    private static final long SOURCE_TOKEN = 1L;
    private static final long SINK_TOKEN = 1L << TOKEN_BITS;
    private static final long INITIAL = SOURCE_TOKEN;
    private static final long FINAL = SINK_TOKEN;
    private static final long SINK_TOKENS = 15L << TOKEN_BITS;
    private static final long ONE_EACH = 0x1111111111111111L;
    private static final long EIGHT_EACH = ONE_EACH << 3;

    private final Log log;
    private final Net given;
    private final Net found;
    private final Miner miner;
    private final Reach reach;
    private final Player player;

    public FootprintNet() {
        log = new Log();
        given = new Net();
        found = new Net();
        miner = new Miner();
        reach = new Reach();
        player = new Player();
    }

    public int begin() {
        return log.addTrace();
    }

    public boolean event(int a) {
        return log.append(a);
    }

    public void clear() {
        log.removeTraces();
    }

    public int length(int trace) {
        return log.hasTrace(trace) ? log.lengthOf(trace) : BAD;
    }

    public int at(int trace, int i) {
        return log.hasEvent(trace, i) ? log.activityAt(trace, i) : BAD;
    }

    public int relation(int a, int b) {
        if (!isActivity(a) || !isActivity(b)) {
            return BAD;
        }
        int forward = log.isFollowed(a, b) ? 1 : 0;
        int backward = log.isFollowed(b, a) ? 2 : 0;
        return forward + backward;
    }

    public int mine() {
        if (!miner.findPairs(log)) {
            return MANY;
        }
        miner.writeNet(log, found);
        return found.placeCount();
    }

    public int place(int inputs, int outputs) {
        if (!isSet(inputs) || inputs == 0 || !isSet(outputs) || outputs == 0) {
            return BAD;
        }
        if (given.hasPlace(inputs, outputs)) {
            return DOUBLE;
        }
        return given.addPlace(inputs, outputs) ? given.placeCount() - 1 : MANY;
    }

    public boolean ends(int first, int last) {
        if (!isSet(first) || !isSet(last)) {
            return false;
        }
        given.setEnds(first, last);
        return true;
    }

    public void reset() {
        given.removeAll();
    }

    public int places(int net) {
        Net chosen = netOf(net);
        return chosen == null ? BAD : chosen.placeCount();
    }

    public int inputs(int net, int k) {
        Net chosen = netOf(net);
        if (chosen == null || k < 0 || k > chosen.placeCount()) {
            return BAD;
        }
        return k == chosen.placeCount() ? chosen.lastOnes() : chosen.inputsOf(k);
    }

    public int outputs(int net, int k) {
        Net chosen = netOf(net);
        if (chosen == null || k < 0 || k > chosen.placeCount()) {
            return BAD;
        }
        return k == chosen.placeCount() ? chosen.firstOnes() : chosen.outputsOf(k);
    }

    public boolean fits(int net, int trace) {
        Net chosen = netOf(net);
        return chosen != null && log.hasTrace(trace) && replays(chosen, trace);
    }

    public int markings(int net) {
        Net chosen = netOf(net);
        if (chosen == null) {
            return BAD;
        }
        return reach.explore(chosen) ? reach.markingCount() : WIDE;
    }

    public int sound(int net) {
        Net chosen = netOf(net);
        if (chosen == null) {
            return BAD;
        }
        if (!reach.explore(chosen)) {
            return WIDE;
        }
        return reach.provesSound(chosen) ? 1 : 0;
    }

    public int shape(int net) {
        Net chosen = netOf(net);
        if (chosen == null) {
            return BAD;
        }
        int selfLoop = chosen.hasSelfLoop() ? 1 : 0;
        int shortLoop = chosen.hasShortLoop() ? 2 : 0;
        int mixedChoice = chosen.hasMixedChoice() ? 4 : 0;
        return selfLoop + shortLoop + mixedChoice;
    }

    public int play(long tape) {
        if (log.isFull()) {
            return MANY;
        }
        if (!player.reachesFinal(given, tape)) {
            return BAD;
        }
        int trace = log.addTrace();
        for (int i = 0; i < player.firedCount(); i++) {
            log.append(player.firedAt(i));
        }
        return trace;
    }

    public boolean same() {
        return given.isLike(found);
    }

    private static boolean isActivity(int a) {
        return a >= 0 && a < ACTIVITIES;
    }

    private static boolean isSet(int set) {
        return set >= 0 && set < SETS;
    }

    private static boolean isIn(int a, int set) {
        return (set & 1 << a) != 0;
    }

    private Net netOf(int net) {
        if (net == 0) {
            return given;
        }
        return net == 1 ? found : null;
    }

    private boolean replays(Net net, int trace) {
        long marking = INITIAL;
        for (int i = 0; i < log.lengthOf(trace); i++) {
            int a = log.activityAt(trace, i);
            if (!isIn(a, net.enabledIn(marking))) {
                return false;
            }
            marking = net.afterFiring(marking, a);
        }
        return marking == FINAL;
    }

    /** The traces, and for each activity the set of those that it is followed by. */
    private static final class Log {
        private final int[] lengths;
        private final int[] events;
        private final int[] followers;
        private int traces;

        Log() {
            lengths = new int[MOST_TRACES];
            events = new int[MOST_TRACES * MOST_EVENTS];
            followers = new int[ACTIVITIES];
            traces = 0;
        }

        boolean isFull() {
            return traces == MOST_TRACES;
        }

        boolean hasTrace(int trace) {
            return trace >= 0 && trace < traces;
        }

        boolean hasEvent(int trace, int i) {
            return hasTrace(trace) && i >= 0 && i < lengths[trace];
        }

        int lengthOf(int trace) {
            return lengths[trace];
        }

        int activityAt(int trace, int i) {
            return events[trace * MOST_EVENTS + i];
        }

        int addTrace() {
            if (isFull()) {
                return MANY;
            }
            lengths[traces] = 0;
            traces++;
            return traces - 1;
        }

        boolean append(int a) {
            int trace = traces - 1;
            if (!isActivity(a) || trace < 0 || lengths[trace] == MOST_EVENTS) {
                return false;
            }
            int length = lengths[trace];
            if (length > 0) {
                followers[activityAt(trace, length - 1)] |= 1 << a;
            }
            events[trace * MOST_EVENTS + length] = a;
            lengths[trace] = length + 1;
            return true;
        }

        void removeTraces() {
            traces = 0;
            Arrays.fill(followers, 0);
        }

        boolean isFollowed(int a, int b) {
            return isIn(b, followers[a]);
        }

        int occurring() {
            int set = 0;
            for (int t = 0; t < traces; t++) {
                for (int i = 0; i < lengths[t]; i++) {
                    set |= 1 << activityAt(t, i);
                }
            }
            return set;
        }

        int beginners() {
            int set = 0;
            for (int t = 0; t < traces; t++) {
                if (lengths[t] > 0) {
                    set |= 1 << activityAt(t, 0);
                }
            }
            return set;
        }

        int enders() {
            int set = 0;
            for (int t = 0; t < traces; t++) {
                if (lengths[t] > 0) {
                    set |= 1 << activityAt(t, lengths[t] - 1);
                }
            }
            return set;
        }
    }

    /** A net, with the tokens that each activity takes and puts kept ready as markings. */
    private static final class Net {
        private final int[] ins;
        private final int[] outs;
        private final long[] takes;
        private final long[] puts;
        private int count;
        private int first;
        private int last;
        private int loose;
        private int members;

        Net() {
            ins = new int[MOST_PLACES];
            outs = new int[MOST_PLACES];
            takes = new long[ACTIVITIES];
            puts = new long[ACTIVITIES];
            count = 0;
            first = 0;
            last = 0;
            loose = 0;
            members = 0;
        }

        int placeCount() {
            return count;
        }

        int inputsOf(int k) {
            return ins[k];
        }

        int outputsOf(int k) {
            return outs[k];
        }

        int firstOnes() {
            return first;
        }

        int lastOnes() {
            return last;
        }

        int activitySet() {
            return members;
        }

        boolean hasPlace(int inputs, int outputs) {
            for (int k = 0; k < count; k++) {
                if (ins[k] == inputs && outs[k] == outputs) {
                    return true;
                }
            }
            return false;
        }

        boolean addPlace(int inputs, int outputs) {
            if (count == MOST_PLACES) {
                return false;
            }
            ins[count] = inputs;
            outs[count] = outputs;
            count++;
            prepareFiring();
            return true;
        }

        void setEnds(int newFirst, int newLast) {
            first = newFirst;
            last = newLast;
            prepareFiring();
        }

        /** Only a found net needs this: it can have activities that no place knows. */
        void setLoose(int set) {
            loose = set;
            prepareFiring();
        }

        void removeAll() {
            count = 0;
            loose = 0;
            setEnds(0, 0);
        }

        private void prepareFiring() {
            members = loose;
            Arrays.fill(takes, 0L);
            Arrays.fill(puts, 0L);
            connect(0, first, SOURCE_TOKEN);
            connect(last, 0, SINK_TOKEN);
            for (int k = 0; k < count; k++) {
                connect(ins[k], outs[k], 1L << TOKEN_BITS * (k + END_PLACES));
            }
        }

        private void connect(int inputs, int outputs, long token) {
            members |= inputs | outputs;
            for (int a = 0; a < ACTIVITIES; a++) {
                if (isIn(a, inputs)) {
                    puts[a] |= token;
                }
                if (isIn(a, outputs)) {
                    takes[a] |= token;
                }
            }
        }

        int enabledIn(long marking) {
            long held = (marking | marking >>> 1 | marking >>> 2 | marking >>> 3) & ONE_EACH;
            int set = 0;
            for (int a = 0; a < ACTIVITIES; a++) {
                if ((takes[a] & ~held) == 0L) {
                    set |= 1 << a;
                }
            }
            return set & members;
        }

        long afterFiring(long marking, int a) {
            return marking - takes[a] + puts[a];
        }

        boolean hasSelfLoop() {
            for (int k = 0; k < count; k++) {
                if ((ins[k] & outs[k]) != 0) {
                    return true;
                }
            }
            return false;
        }

        boolean hasShortLoop() {
            for (int p = 0; p < count; p++) {
                for (int q = 0; q < count; q++) {
                    int there = outs[p] & ins[q];
                    int back = outs[q] & ins[p];
                    // Two bits in all: then one can be taken from each that is not the other's.
                    if (there != 0 && back != 0 && Integer.bitCount(there | back) >= 2) {
                        return true;
                    }
                }
            }
            return false;
        }

        /** The source stands behind the inner places here, with the number count. */
        boolean hasMixedChoice() {
            for (int p = 0; p <= count; p++) {
                int choice = p == count ? first : outs[p];
                if (Integer.bitCount(choice) >= 2 && sharesOutputs(p, choice)) {
                    return true;
                }
            }
            return false;
        }

        private boolean sharesOutputs(int p, int choice) {
            for (int q = 0; q <= count; q++) {
                int others = q == count ? first : outs[q];
                if (q != p && (choice & others) != 0) {
                    return true;
                }
            }
            return false;
        }

        /** No net has the same pair twice, so equal counts and one inclusion are enough. */
        boolean isLike(Net other) {
            if (members != other.members || first != other.first || last != other.last
                    || count != other.count) {
                return false;
            }
            for (int k = 0; k < count; k++) {
                if (!other.hasPlace(ins[k], outs[k])) {
                    return false;
                }
            }
            return true;
        }
    }

    /** Finds the greatest causal pairs of a log, apart from any net, as they may be too many. */
    private static final class Miner {
        private final int[] effects;
        private final boolean[] strange;
        private final int[] pairIns;
        private final int[] pairOuts;
        private int pairs;

        Miner() {
            effects = new int[SETS];
            strange = new boolean[SETS];
            pairIns = new int[MOST_PLACES];
            pairOuts = new int[MOST_PLACES];
            pairs = 0;
        }

        /** False when there are more than a net can hold. */
        boolean findPairs(Log log) {
            prepareSets(log);
            pairs = 0;
            for (int left = 1; left < SETS; left++) {
                if (strange[left] && effects[left] != 0 && !addPairsOf(left)) {
                    return false;
                }
            }
            return true;
        }

        void writeNet(Log log, Net net) {
            net.removeAll();
            for (int k = 0; k < pairs; k++) {
                net.addPlace(pairIns[k], pairOuts[k]);
            }
            net.setEnds(log.beginners(), log.enders());
            net.setLoose(log.occurring());
        }

        /** For every set: what all of it cause, and whether any two of it are strangers. */
        private void prepareSets(Log log) {
            effects[0] = SETS - 1;
            strange[0] = true;
            for (int a = 0; a < ACTIVITIES; a++) {
                int caused = causedBy(log, a);
                int known = knownTo(log, a);
                int bit = 1 << a;
                for (int rest = 0; rest < bit; rest++) {
                    int set = rest | bit;
                    effects[set] = effects[rest] & caused;
                    strange[set] = strange[rest] && (known & set) == 0;
                }
            }
        }

        private static int causedBy(Log log, int a) {
            int set = 0;
            for (int b = 0; b < ACTIVITIES; b++) {
                if (log.isFollowed(a, b) && !log.isFollowed(b, a)) {
                    set |= 1 << b;
                }
            }
            return set;
        }

        private static int knownTo(Log log, int a) {
            int set = 0;
            for (int b = 0; b < ACTIVITIES; b++) {
                if (log.isFollowed(a, b) || log.isFollowed(b, a)) {
                    set |= 1 << b;
                }
            }
            return set;
        }

        private boolean addPairsOf(int left) {
            for (int right = 1; right < SETS; right++) {
                if (isCausal(left, right) && isGreatest(left, right)) {
                    if (pairs == MOST_PLACES) {
                        return false;
                    }
                    pairIns[pairs] = left;
                    pairOuts[pairs] = right;
                    pairs++;
                }
            }
            return true;
        }

        /** Of two sets that have activities. */
        private boolean isCausal(int left, int right) {
            return strange[left] && strange[right] && (right & ~effects[left]) == 0;
        }

        /** Parts of a causal pair are causal, so a greater one shows in one activity more. */
        private boolean isGreatest(int left, int right) {
            for (int a = 0; a < ACTIVITIES; a++) {
                int bit = 1 << a;
                if ((left & bit) == 0 && isCausal(left | bit, right)) {
                    return false;
                }
                if ((right & bit) == 0 && isCausal(left, right | bit)) {
                    return false;
                }
            }
            return true;
        }
    }

    /** The reachable markings of the net that was explored last. */
    private static final class Reach {
        private static final int SLOTS = 512;
        private static final int SLOT_SHIFT = 55;
        private static final long SPREAD = 0x9E3779B97F4A7C15L;
        private static final int NONE = -1;

        private final long[] seen;
        private final int[] slots;
        private final int[] next;
        private final boolean[] ending;
        private int count;
        private int everEnabled;

        Reach() {
            seen = new long[MOST_MARKINGS];
            slots = new int[SLOTS];
            next = new int[MOST_MARKINGS * ACTIVITIES];
            ending = new boolean[MOST_MARKINGS];
            count = 0;
            everEnabled = 0;
        }

        int markingCount() {
            return count;
        }

        /** False when the net is wide. */
        boolean explore(Net net) {
            count = 0;
            everEnabled = 0;
            Arrays.fill(slots, NONE);
            indexOf(INITIAL);
            for (int i = 0; i < MOST_MARKINGS && i < count; i++) {
                if (!addNextOf(net, i)) {
                    return false;
                }
            }
            return true;
        }

        private boolean addNextOf(Net net, int i) {
            int enabled = net.enabledIn(seen[i]);
            everEnabled |= enabled;
            for (int a = 0; a < ACTIVITIES; a++) {
                int index = NONE;
                if (isIn(a, enabled)) {
                    long marking = net.afterFiring(seen[i], a);
                    if ((marking & EIGHT_EACH) != 0L) {
                        return false;
                    }
                    index = indexOf(marking);
                    if (index == NONE) {
                        return false;
                    }
                }
                next[i * ACTIVITIES + a] = index;
            }
            return true;
        }

        /** Adds the marking if it is new; NONE when it is one too many. */
        private int indexOf(long marking) {
            int slot = (int) (marking * SPREAD >>> SLOT_SHIFT);
            for (int step = 0; step < SLOTS; step++) {
                int index = slots[slot];
                if (index == NONE) {
                    return addAt(slot, marking);
                }
                if (seen[index] == marking) {
                    return index;
                }
                slot = (slot + 1) % SLOTS;
            }
            return NONE;
        }

        private int addAt(int slot, long marking) {
            if (count == MOST_MARKINGS) {
                return NONE;
            }
            seen[count] = marking;
            slots[slot] = count;
            count++;
            return count - 1;
        }

        boolean provesSound(Net net) {
            return everEnabled == net.activitySet() && sinkMeansFinal() && allCanEnd();
        }

        private boolean sinkMeansFinal() {
            for (int i = 0; i < count; i++) {
                if ((seen[i] & SINK_TOKENS) != 0L && seen[i] != FINAL) {
                    return false;
                }
            }
            return true;
        }

        private boolean allCanEnd() {
            int able = 0;
            for (int i = 0; i < count; i++) {
                ending[i] = seen[i] == FINAL;
                able += ending[i] ? 1 : 0;
            }
            // A round that finds none more is the last; each other one finds one at least.
            int news = able;
            for (int round = 0; round < MOST_MARKINGS && news > 0; round++) {
                news = spreadEnding();
                able += news;
            }
            return able == count;
        }

        /** Backwards, as what is reached later mostly lies nearer to the final marking. */
        private int spreadEnding() {
            int news = 0;
            for (int i = count - 1; i >= 0; i--) {
                if (!ending[i] && leadsToEnding(i)) {
                    ending[i] = true;
                    news++;
                }
            }
            return news;
        }

        private boolean leadsToEnding(int i) {
            for (int a = 0; a < ACTIVITIES; a++) {
                int index = next[i * ACTIVITIES + a];
                if (index != NONE && ending[index]) {
                    return true;
                }
            }
            return false;
        }
    }

    /** Fires activities as a tape tells, apart from the log, as they may become no trace. */
    private static final class Player {
        private static final int CHOICE_BITS = 3;
        private static final int CHOICE_MASK = 7;

        private final int[] fired;
        private int count;

        Player() {
            fired = new int[MOST_EVENTS];
            count = 0;
        }

        int firedCount() {
            return count;
        }

        int firedAt(int i) {
            return fired[i];
        }

        boolean reachesFinal(Net net, long tape) {
            long marking = INITIAL;
            long rest = tape;
            count = 0;
            while (count < MOST_EVENTS && marking != FINAL) {
                int enabled = net.enabledIn(marking);
                if (enabled == 0) {
                    return false;
                }
                int a = chosenOf(enabled, (int) (rest & CHOICE_MASK));
                fired[count] = a;
                count++;
                marking = net.afterFiring(marking, a);
                rest >>>= CHOICE_BITS;
            }
            return marking == FINAL;
        }

        /** Of a set that has activities. */
        private static int chosenOf(int enabled, int number) {
            int size = Integer.bitCount(enabled);
            int left = size == 0 ? 0 : number % size;
            for (int a = 0; a < ACTIVITIES; a++) {
                if (isIn(a, enabled)) {
                    if (left == 0) {
                        return a;
                    }
                    left--;
                }
            }
            return 0;
        }
    }
}
