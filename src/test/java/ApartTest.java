import java.util.ArrayList;
import java.util.List;

/** Objects that are used by turns answer as each would alone: they have nothing in common. */
public final class ApartTest {
    private ApartTest() {
    }

    public static void main(String[] args) {
        List<List<Call>> runs = List.of(parallelOnes(), aLoop(), aWideNet(), manyPairs());
        byTurns(runs, 1);
        byTurns(runs, 3);
        byTurns(List.of(aLoop(), aLoop(), parallelOnes(), parallelOnes()), 2);
        Check.end();
    }

    /** So many calls on one object, then so many on the next one. */
    private static void byTurns(List<List<Call>> runs, int calls) {
        List<FootprintNet> objects = new ArrayList<>();
        List<List<String>> alone = new ArrayList<>();
        int longest = 0;
        for (List<Call> run : runs) {
            objects.add(new FootprintNet());
            alone.add(Call.answers(run));
            longest = Math.max(longest, run.size());
        }
        for (int from = 0; from < longest; from += calls) {
            for (int k = 0; k < runs.size(); k++) {
                List<Call> run = runs.get(k);
                for (int i = from; i < Math.min(from + calls, run.size()); i++) {
                    String got = run.get(i).name() + " answered " + run.get(i).made().applyAsLong(objects.get(k));
                    Check.holds("object " + k + ", by turns: " + got + ", alone: " + alone.get(k).get(i),
                            got.equals(alone.get(k).get(i)));
                }
            }
        }
    }

    private static List<Call> look() {
        List<Call> calls = new ArrayList<>(List.of(Call.mine(), Call.same()));
        for (int net = 0; net <= 1; net++) {
            calls.addAll(List.of(Call.places(net), Call.markings(net), Call.sound(net), Call.shape(net)));
            for (int k = 0; k <= 4; k++) {
                calls.addAll(List.of(Call.inputs(net, k), Call.outputs(net, k), Call.fits(net, k)));
            }
        }
        for (int t = 0; t <= 4; t++) {
            calls.addAll(List.of(Call.length(t), Call.at(t, 0), Call.at(t, 1), Call.relation(t, t + 1)));
        }
        return calls;
    }

    private static List<Call> parallelOnes() {
        return Call.run(Call.net(1, 8, 1, 2, 1, 4, 2, 8, 4, 8), List.of(Call.play(0L), Call.play(8L)), look(),
                List.of(Call.reset(), Call.clear()), look());
    }

    private static List<Call> aLoop() {
        return Call.run(Call.trace(5), Call.net(2, 4, 2 | 16, 8, 8, 16 | 4), List.of(Call.play(0L),
                Call.play(-1L), Call.play(64L)), look(), Call.trace(1, 3, 4, 3, 2), look());
    }

    private static List<Call> aWideNet() {
        return Call.run(Call.net(1, 1, 2, 4), List.of(Call.play(1L), Call.play(0L)), look(),
                Call.trace(0, 6, 6, 0), look());
    }

    private static List<Call> manyPairs() {
        List<Call> calls = new ArrayList<>(Call.net(127, 127));
        for (int[] walk : Build.walks(Build.allSteps(7))) {
            calls.addAll(Call.trace(walk));
        }
        return Call.run(calls, look(), Call.trace(0, 6), look());
    }
}
