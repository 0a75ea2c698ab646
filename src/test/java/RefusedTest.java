import java.util.ArrayList;
import java.util.List;

/**
 * A refused call, and one that only reads, changes nothing: every later answer of an object is as it
 * would have been without it.
 */
public final class RefusedTest {
    private static final int BAD = FootprintNet.BAD;
    private static final int MANY = FootprintNet.MANY;
    private static final int DOUBLE = FootprintNet.DOUBLE;
    private static final int FALSE = 0;

    private RefusedTest() {
    }

    public static void main(String[] args) {
        beginAtTwenty();
        eventWithoutATrace();
        eventAtFifteen();
        eventOfNoActivity();
        mineOfFifteenPairs();
        placeOfNoSets();
        placeThatIsThere();
        placeAtFourteen();
        endsOfNoSets();
        playThatDoesNotEnd();
        playAtTwenty();
        allInARow();
        readingChangesNothing();
        Check.end();
    }

    private static List<Call> fresh() {
        return List.of();
    }

    /** Some traces, the latest not full; net 0 with places, net 1 mined, and the log gone on since. */
    private static List<Call> some() {
        return Call.run(Call.trace(0, 1, 2, 3), Call.trace(0, 2, 1, 3), List.of(Call.mine()),
                Call.net(1, 2, 1 | 4, 4 | 2), List.of(Call.play(8L)), Call.trace(4, 4, 6));
    }

    /** Twenty traces, the latest with fifteen activities; net 0 with fourteen inner places. */
    private static List<Call> full() {
        List<Call> calls = new ArrayList<>(Call.net(1, 2));
        for (int k = 0; k < 14; k++) {
            calls.add(Call.place(k % 3 == 0 ? 1 : 5, 2 + 4 * k));
        }
        calls.addAll(Call.trace(0, 1));
        for (int t = 1; t < 19; t++) {
            calls.addAll(Call.trace(t % 7));
        }
        calls.addAll(Call.trace(0, 1, 2, 0, 1, 2, 0, 1, 2, 3, 4, 5, 6, 4, 5));
        calls.add(Call.mine());
        return calls;
    }

    /** A log of fifteen greatest pairs, and a net that was found before. */
    private static List<Call> fifteenPairs() {
        List<Call> calls = Call.run(Call.trace(3, 1, 1, 5), List.of(Call.mine()),
                Call.net(8, 32), List.of(Call.clear()));
        for (int[] walk : Build.walks(Build.allSteps(6))) {
            calls.addAll(Call.trace(walk));
        }
        return calls;
    }

    private static List<Call> lookAtLog() {
        List<Call> calls = new ArrayList<>();
        for (int t = -1; t <= 20; t++) {
            calls.add(Call.length(t));
            for (int i = 0; i < (t == 0 || t == 19 ? 16 : 5); i++) {
                calls.add(Call.at(t, i));
            }
        }
        for (int a = 0; a <= 6; a++) {
            for (int b = 0; b <= 6; b++) {
                calls.add(Call.relation(a, b));
            }
        }
        return calls;
    }

    private static List<Call> lookAtNets() {
        List<Call> calls = new ArrayList<>();
        for (int net = 0; net <= 1; net++) {
            calls.addAll(List.of(Call.places(net), Call.markings(net), Call.sound(net), Call.shape(net)));
            for (int k = 0; k <= 15; k++) {
                calls.addAll(List.of(Call.inputs(net, k), Call.outputs(net, k)));
            }
            for (int t = 0; t <= 19; t++) {
                calls.add(Call.fits(net, t));
            }
        }
        calls.add(Call.same());
        return calls;
    }

    private static List<Call> goOnWithTheLog() {
        return Call.run(List.of(Call.event(3), Call.length(0), Call.event(4), Call.mine(), Call.begin(),
                Call.event(5), Call.play(0L), Call.event(1), Call.mine()), lookAtNets());
    }

    private static List<Call> goOnWithNetZero() {
        return Call.run(List.of(Call.place(64, 2), Call.place(3, 5), Call.markings(0), Call.ends(3, 66),
                Call.sound(0), Call.play(0L), Call.play(-1L)), lookAtNets());
    }

    private static List<Call> goOnAnew() {
        return Call.run(List.of(Call.clear(), Call.event(1), Call.mine(), Call.same(), Call.reset()),
                Call.net(1, 4, 1, 2, 2, 4), List.of(Call.play(0L), Call.mine(), Call.same(), Call.begin(),
                Call.event(6), Call.mine()), lookAtNets());
    }

    private static void refused(String what, List<Call> before, Call call, long due) {
        String answer = call.name() + " answered " + due;
        List<String> told = Call.answers(Call.run(before, List.of(call)));
        Check.holds(what + ": " + told.get(before.size()) + ", due is " + due,
                told.get(before.size()).equals(answer));
        withoutTrace(what + ": " + call.name(), before, List.of(call));
        withoutTrace(what + ": " + call.name() + " twice", before, List.of(call, call));
    }

    private static void withoutTrace(String what, List<Call> before, List<Call> calls) {
        List<List<Call>> looks = List.of(lookAtLog(), lookAtNets(), goOnWithTheLog(), goOnWithNetZero(),
                goOnAnew());
        for (List<Call> look : looks) {
            List<String> with = Call.answers(Call.run(before, calls, look));
            List<String> without = Call.answers(Call.run(before, look));
            for (int i = before.size(); i < without.size(); i++) {
                String got = with.get(i + calls.size());
                Check.holds(what + ", then " + got + ", without it " + without.get(i),
                        got.equals(without.get(i)));
            }
        }
    }

    private static void beginAtTwenty() {
        refused("2: at 20", full(), Call.begin(), MANY);
    }

    private static void eventWithoutATrace() {
        for (int a = 0; a <= 6; a++) {
            refused("3: without a trace", fresh(), Call.event(a), FALSE);
        }
        refused("3: after clear()", Call.run(some(), List.of(Call.clear())), Call.event(0), FALSE);
    }

    private static void eventAtFifteen() {
        for (int a = 0; a <= 6; a++) {
            refused("3: at 15", full(), Call.event(a), FALSE);
        }
    }

    private static void eventOfNoActivity() {
        int[] wrong = {-1, 7, 32, 38, Integer.MIN_VALUE, Integer.MAX_VALUE};
        for (int a : wrong) {
            refused("3: no activity", fresh(), Call.event(a), FALSE);
            refused("3: no activity", some(), Call.event(a), FALSE);
            refused("3: no activity, at 15", full(), Call.event(a), FALSE);
        }
    }

    private static void mineOfFifteenPairs() {
        refused("8: 15 pairs", fifteenPairs(), Call.mine(), MANY);
        List<Call> refusedBefore = Call.run(fifteenPairs(), List.of(Call.mine()));
        refused("8: 15 pairs again", refusedBefore, Call.mine(), MANY);
        List<Call> noneFound = new ArrayList<>();
        for (int[] walk : Build.walks(Build.allSteps(6))) {
            noneFound.addAll(Call.trace(walk));
        }
        refused("8: 15 pairs, and no net was found yet", noneFound, Call.mine(), MANY);
    }

    private static void placeOfNoSets() {
        int[] wrong = {0, 128, -1, 129, Integer.MIN_VALUE, Integer.MAX_VALUE};
        for (int set : wrong) {
            refused("9: wrong inputs", fresh(), Call.place(set, 1), BAD);
            refused("9: wrong outputs", fresh(), Call.place(1, set), BAD);
            refused("9: wrong inputs", some(), Call.place(set, 64), BAD);
            refused("9: wrong outputs", some(), Call.place(64, set), BAD);
            refused("9: wrong inputs, at 14", full(), Call.place(set, 64), BAD);
            refused("9: wrong outputs, at 14", full(), Call.place(64, set), BAD);
        }
    }

    private static void placeThatIsThere() {
        refused("9: it is there", some(), Call.place(5, 6), DOUBLE);
        refused("9: it is there, at 14", full(), Call.place(1, 2), DOUBLE);
        refused("9: it is there, at 14", full(), Call.place(5, 54), DOUBLE);
    }

    private static void placeAtFourteen() {
        refused("9: at 14", full(), Call.place(64, 2), MANY);
        refused("9: at 14", full(), Call.place(3, 5), MANY);
        refused("9: at 14", full(), Call.place(127, 127), MANY);
    }

    private static void endsOfNoSets() {
        int[] wrong = {128, -1, 129, 255, Integer.MIN_VALUE, Integer.MAX_VALUE};
        for (int set : wrong) {
            refused("10: wrong first", fresh(), Call.ends(set, 1), FALSE);
            refused("10: wrong last", fresh(), Call.ends(1, set), FALSE);
            refused("10: wrong first", some(), Call.ends(set, 64), FALSE);
            refused("10: wrong last", some(), Call.ends(64, set), FALSE);
            refused("10: both wrong", some(), Call.ends(set, set), FALSE);
        }
    }

    private static void playThatDoesNotEnd() {
        refused("19: nothing is enabled", fresh(), Call.play(0L), BAD);
        refused("19: it does not end in 15", some(), Call.play(-1L), BAD);
        List<Call> stuck = Call.run(some(), List.of(Call.place(4, 2)));
        refused("19: it goes on with 2, and does not end", stuck, Call.play(-1L), BAD);
        List<Call> deadEnd = Call.run(some(), List.of(Call.place(64, 2), Call.place(2, 64)));
        refused("19: it comes to nothing", deadEnd, Call.play(0L), BAD);
        List<Call> nineteen = Call.run(List.of(Call.ends(1, 2), Call.place(2, 2)));
        for (int t = 0; t < 19; t++) {
            nineteen.add(Call.begin());
        }
        refused("19: it does not end, and 19 traces are there", nineteen, Call.play(0L), BAD);
    }

    private static void playAtTwenty() {
        refused("19: at 20", full(), Call.play(0L), MANY);
        refused("19: at 20", full(), Call.play(-1L), MANY);
        refused("19: at 20, an empty net", Call.run(full(), List.of(Call.reset())), Call.play(0L), MANY);
    }

    private static void allInARow() {
        withoutTrace("all that is refused at first", fresh(), List.of(Call.event(0), Call.event(7),
                Call.play(0L), Call.place(0, 0), Call.ends(-1, 128), Call.event(6), Call.play(-1L)));
        withoutTrace("all that is refused between", some(), List.of(Call.event(-1), Call.place(5, 6),
                Call.place(0, 6), Call.ends(1, 128), Call.play(-1L), Call.event(7), Call.ends(-1, 1)));
        withoutTrace("all that is refused at last", full(), List.of(Call.begin(), Call.event(0),
                Call.play(0L), Call.place(1, 2), Call.place(99, 99), Call.place(128, 1), Call.ends(128, 1)));
        withoutTrace("all that is refused with 15 pairs", fifteenPairs(), List.of(Call.mine(),
                Call.event(7), Call.mine(), Call.place(1, 0), Call.ends(1, -1)));
    }

    private static void readingChangesNothing() {
        int[] numbers = {0, 1, -1, 2, 14, 15, 19, 20, Integer.MIN_VALUE, Integer.MAX_VALUE};
        List<Call> reads = new ArrayList<>();
        for (int n : numbers) {
            reads.addAll(List.of(Call.length(n), Call.at(n, 0), Call.at(0, n), Call.relation(n, 1),
                    Call.relation(1, n), Call.places(n), Call.inputs(n, 0), Call.inputs(0, n),
                    Call.outputs(n, 0), Call.outputs(1, n), Call.fits(n, 0), Call.fits(0, n),
                    Call.markings(n), Call.sound(n), Call.shape(n), Call.same()));
        }
        withoutTrace("reading at first", fresh(), reads);
        withoutTrace("reading between", some(), reads);
        withoutTrace("reading at last", full(), reads);
        withoutTrace("reading with 15 pairs", fifteenPairs(), reads);
    }
}
