import java.util.ArrayList;
import java.util.Collections;
import java.util.List;
import java.util.Map;
import java.util.Random;
import java.util.TreeMap;

/** Long runs of calls, always the same ones, each answer held against the Reference. */
public final class ModelTest {
    private static final int RUNS = 700;
    private static final int CALLS = 512;

    private static final Map<String, Integer> SEEN = new TreeMap<>();

    private final Random dice;
    private final FootprintNet net = new FootprintNet();
    private final Reference reference = new Reference();
    private final List<String> told = new ArrayList<>();

    private ModelTest(long seed) {
        dice = new Random(seed);
    }

    public static void main(String[] args) {
        for (int run = 0; run < RUNS && Check.wrongOnes() == 0; run++) {
            ModelTest test = new ModelTest(run);
            test.run(run % 7);
            if (Check.wrongOnes() != 0) {
                System.out.println("run " + run + ": " + test.told);
            }
        }
        everyKindOfAnswerWasSeen();
        Check.end();
    }

    private static void everyKindOfAnswerWasSeen() {
        String[] kinds = {"begin -2", "event 0", "event 1", "length -1", "at -1", "relation -1",
            "relation 0", "relation 1", "relation 2", "relation 3", "mine -2", "mine 0", "mine 12",
            "place -1", "place -2", "place -4", "place 13", "ends 0", "ends 1", "places -1",
            "inputs -1", "outputs -1", "fits 0", "fits 1", "markings -1", "markings -3", "markings 1",
            "sound -1", "sound -3", "sound 0", "sound 1", "shape -1", "shape 0", "shape 1", "shape 2",
            "shape 3", "shape 4", "shape 5", "shape 6", "shape 7", "play -2", "play -1", "play 0",
            "same 0", "same 1"};
        for (String kind : kinds) {
            Check.holds("seen: " + kind, SEEN.getOrDefault(kind, 0) >= 3);
        }
    }

    private void run(int style) {
        switch (style) {
            case 0 -> anyCalls();
            case 1 -> blocks(false);
            case 2 -> blocks(true);
            case 3 -> orderedLogs();
            case 4 -> smallNets();
            case 5 -> netsOfManyMarkings();
            default -> fewActivities();
        }
    }

    private void due(String call, long got, long want) {
        told.add(call + " " + got);
        SEEN.merge(call.substring(0, call.indexOf('(')) + " " + want, 1, Integer::sum);
        Check.due(call, got, want);
    }

    private void due(String call, boolean got, boolean want) {
        due(call, got ? 1L : 0L, want ? 1L : 0L);
    }

    private boolean hasCalls(int wanted) {
        return told.size() + wanted <= CALLS;
    }

    private int setOf(int activities) {
        return dice.nextInt(8) == 0 ? dice.nextInt(132) - 2
                : 1 << dice.nextInt(activities) | (dice.nextInt(3) == 0 ? 1 << dice.nextInt(activities) : 0);
    }

    private void anyCalls() {
        for (int i = 0; i < CALLS; i++) {
            anyCall(7, 19);
        }
    }

    private void fewActivities() {
        for (int i = 0; i < CALLS; i++) {
            anyCall(3, 21);
        }
    }

    private void anyCall(int activities, int kinds) {
        int net01 = dice.nextInt(12) == 0 ? dice.nextInt(5) - 2 : dice.nextInt(2);
        int a = dice.nextInt(25) == 0 ? dice.nextInt(12) - 3 : dice.nextInt(activities);
        int b = dice.nextInt(25) == 0 ? dice.nextInt(12) - 3 : dice.nextInt(activities);
        switch (dice.nextInt(kinds)) {
            case 0 -> begin();
            case 1, 2, 3 -> event(a);
            case 4 -> rarelyEmpty();
            case 5 -> length(dice.nextInt(23) - 2);
            case 6 -> at(dice.nextInt(23) - 2, dice.nextInt(19) - 2);
            case 7 -> relation(a, b);
            case 8 -> mine();
            case 9 -> place(setOf(activities), setOf(activities));
            case 10 -> ends(setOf(activities), setOf(activities));
            case 11 -> places(net01);
            case 12 -> inputs(net01, dice.nextInt(18) - 2);
            case 13 -> outputs(net01, dice.nextInt(18) - 2);
            case 14 -> fits(net01, dice.nextInt(23) - 2);
            case 15 -> markings(net01);
            case 16 -> sound(net01);
            case 17 -> shape(net01);
            case 18 -> same();
            default -> play(dice.nextLong());
        }
    }

    private void rarelyEmpty() {
        switch (dice.nextInt(20)) {
            case 0 -> clear();
            case 1 -> reset();
            default -> play(dice.nextLong());
        }
    }

    /** Nets of sequences, choices, parallel parts and loops, which are sound before one is spoilt. */
    private void blocks(boolean spoil) {
        while (hasCalls(240)) {
            reset();
            clear();
            Blocks blocks = new Blocks(dice);
            if (spoil) {
                blocks.spoil();
            }
            for (int[] p : blocks.shuffledInner()) {
                place(p[0], p[1]);
            }
            ends(blocks.first(), blocks.last());
            for (int i = 0; i < 19; i++) {
                play(dice.nextLong());
            }
            mine();
            lookAtAll();
        }
    }

    /** Logs in which the activities mostly come by growing numbers, so that many pairs are causal. */
    private void orderedLogs() {
        int back = dice.nextInt(8);
        int jump = 1 + dice.nextInt(6);
        while (hasCalls(24)) {
            if (begin() < 0) {
                mine();
                lookAtAll();
                clear();
                continue;
            }
            int a = dice.nextInt(3);
            int most = 2 + dice.nextInt(14);
            for (int i = 0; i < most && a < 7; i++) {
                event(a);
                a = dice.nextInt(30) < back ? Math.max(0, a - 1) : a + 1 + dice.nextInt(jump);
            }
            mine();
        }
    }

    private void smallNets() {
        int activities = 2 + dice.nextInt(6);
        while (hasCalls(40)) {
            reset();
            int most = dice.nextInt(18);
            for (int i = 0; i < most; i++) {
                place(setOf(activities), setOf(activities));
            }
            ends(1 << dice.nextInt(activities), setOf(activities));
            markings(0);
            sound(0);
            shape(0);
            play(dice.nextLong());
            play(0);
            fits(0, 0);
        }
    }

    /** Each place has one output, so that little stops the tokens. */
    private void netsOfManyMarkings() {
        while (hasCalls(40)) {
            reset();
            int most = 4 + dice.nextInt(10);
            for (int i = 0; i < most; i++) {
                int in = 1 << dice.nextInt(7) | (dice.nextInt(3) == 0 ? 1 << dice.nextInt(7) : 0);
                place(dice.nextBoolean() ? in | 1 : in, 2 << dice.nextInt(6));
            }
            ends(1, 2 << dice.nextInt(6));
            markings(0);
            sound(0);
            play(dice.nextLong());
        }
    }

    private void lookAtAll() {
        for (int which = 0; which <= 1; which++) {
            markings(which);
            sound(which);
            shape(which);
            for (int k = 0; k <= reference.places(which) && hasCalls(150); k++) {
                inputs(which, k);
                outputs(which, k);
            }
            for (int t = 0; reference.length(t) >= 0 && hasCalls(100); t++) {
                fits(which, t);
            }
        }
        for (int a = 0; a <= 6 && hasCalls(60); a++) {
            relation(a, dice.nextInt(7));
        }
        same();
    }

    private int begin() {
        int want = reference.begin();
        due("begin()", net.begin(), want);
        return want;
    }

    private void event(int a) {
        due("event(" + a + ")", net.event(a), reference.event(a));
    }

    private void clear() {
        net.clear();
        reference.clear();
        told.add("clear()");
    }

    private void length(int trace) {
        due("length(" + trace + ")", net.length(trace), reference.length(trace));
    }

    private void at(int trace, int i) {
        due("at(" + trace + ", " + i + ")", net.at(trace, i), reference.at(trace, i));
    }

    private void relation(int a, int b) {
        due("relation(" + a + ", " + b + ")", net.relation(a, b), reference.relation(a, b));
    }

    private void mine() {
        due("mine()", net.mine(), reference.mine());
    }

    private void place(int in, int out) {
        due("place(" + in + ", " + out + ")", net.place(in, out), reference.place(in, out));
    }

    private void ends(int first, int last) {
        due("ends(" + first + ", " + last + ")", net.ends(first, last), reference.ends(first, last));
    }

    private void reset() {
        net.reset();
        reference.reset();
        told.add("reset()");
    }

    private void places(int which) {
        due("places(" + which + ")", net.places(which), reference.places(which));
    }

    private void inputs(int which, int k) {
        due("inputs(" + which + ", " + k + ")", net.inputs(which, k), reference.inputs(which, k));
    }

    private void outputs(int which, int k) {
        due("outputs(" + which + ", " + k + ")", net.outputs(which, k), reference.outputs(which, k));
    }

    private void fits(int which, int trace) {
        due("fits(" + which + ", " + trace + ")", net.fits(which, trace), reference.fits(which, trace));
    }

    private void markings(int which) {
        due("markings(" + which + ")", net.markings(which), reference.markings(which));
    }

    private void sound(int which) {
        due("sound(" + which + ")", net.sound(which), reference.sound(which));
    }

    private void shape(int which) {
        due("shape(" + which + ")", net.shape(which), reference.shape(which));
    }

    private void play(long tape) {
        due("play(" + tape + "L)", net.play(tape), reference.play(tape));
    }

    private void same() {
        due("same()", net.same(), reference.same());
    }

    /** A net made of blocks; place 0 is the source, place 1 the sink. */
    private static final class Blocks {
        private final Random dice;
        private final List<int[]> all = new ArrayList<>();

        Blocks(Random dice) {
            this.dice = dice;
            all.add(new int[2]);
            all.add(new int[2]);
            List<Integer> activities = new ArrayList<>(List.of(0, 1, 2, 3, 4, 5, 6));
            Collections.shuffle(activities, dice);
            put(activities.subList(0, 1 + dice.nextInt(7)), 0, 1, false);
        }

        private int newPlace() {
            all.add(new int[2]);
            return all.size() - 1;
        }

        private void put(List<Integer> acts, int from, int to, boolean inside) {
            int n = acts.size();
            int kind = dice.nextInt(5);
            if (n == 1) {
                all.get(from)[1] |= 1 << acts.get(0);
                all.get(to)[0] |= 1 << acts.get(0);
            } else if (kind == 0) {
                int cut = 1 + dice.nextInt(n - 1);
                put(acts.subList(0, cut), from, to, inside);
                put(acts.subList(cut, n), from, to, inside);
            } else if (kind <= 2 && n >= 4) {
                parallel(acts, from, to);
            } else if (kind == 3 && inside) {
                put(acts.subList(0, n - 1), from, to, true);
                put(acts.subList(n - 1, n), to, from, true);
            } else {
                int cut = 1 + dice.nextInt(n - 1);
                int middle = newPlace();
                put(acts.subList(0, cut), from, middle, false);
                put(acts.subList(cut, n), middle, to, false);
            }
        }

        private void parallel(List<Integer> acts, int from, int to) {
            int n = acts.size();
            int cut = 2 + dice.nextInt(n - 3);
            for (List<Integer> part : List.of(acts.subList(1, cut), acts.subList(cut, n - 1))) {
                int in = newPlace();
                int out = newPlace();
                put(acts.subList(0, 1), from, in, false);
                put(part, in, out, true);
                put(acts.subList(n - 1, n), out, to, false);
            }
        }

        void spoil() {
            int[] p = all.get(dice.nextInt(all.size()));
            p[dice.nextInt(2)] ^= 1 << dice.nextInt(7);
        }

        List<int[]> shuffledInner() {
            List<int[]> inner = new ArrayList<>(all.subList(2, all.size()));
            Collections.shuffle(inner, dice);
            return inner;
        }

        int first() {
            return all.get(0)[1];
        }

        int last() {
            return all.get(1)[0];
        }
    }
}
