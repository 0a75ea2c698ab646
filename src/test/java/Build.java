import java.util.ArrayList;
import java.util.List;

/** Makes logs and nets in few words, and looks at whole traces and whole found nets. */
final class Build {
    private Build() {
    }

    static void trace(FootprintNet x, int... activities) {
        Check.holds("2: a trace begins", x.begin() >= 0);
        for (int a : activities) {
            Check.holds("3: event(" + a + ")", x.event(a));
        }
    }

    static FootprintNet log(int[]... traces) {
        FootprintNet x = new FootprintNet();
        for (int[] activities : traces) {
            trace(x, activities);
        }
        return x;
    }

    /** Pairs of inputs and outputs, one after the other. */
    static FootprintNet net(int first, int last, int... sets) {
        FootprintNet x = new FootprintNet();
        Check.holds("10: ends(" + first + ", " + last + ")", x.ends(first, last));
        for (int k = 0; k < sets.length; k += 2) {
            Check.due("9: place", x.place(sets[k], sets[k + 1]), k / 2);
        }
        return x;
    }

    static void traceIs(String what, FootprintNet x, int trace, int... activities) {
        Check.due(what + ": length(" + trace + ")", x.length(trace), activities.length);
        for (int i = 0; i < activities.length; i++) {
            Check.due(what + ": at(" + trace + ", " + i + ")", x.at(trace, i), activities[i]);
        }
    }

    static void foundIs(String what, FootprintNet x, int first, int last, int... sets) {
        int count = sets.length / 2;
        Check.due(what + ": places(1)", x.places(1), count);
        for (int k = 0; k < count; k++) {
            Check.due(what + ": inputs(1, " + k + ")", x.inputs(1, k), sets[2 * k]);
            Check.due(what + ": outputs(1, " + k + ")", x.outputs(1, k), sets[2 * k + 1]);
        }
        Check.due(what + ": first", x.outputs(1, count), first);
        Check.due(what + ": last", x.inputs(1, count), last);
    }

    /** Adds traces whose steps are just those told as 10 * a + b. */
    static void steps(FootprintNet x, int... steps) {
        for (int[] walk : walks(steps)) {
            trace(x, walk);
        }
    }

    static List<int[]> walks(int... steps) {
        List<Integer> open = new ArrayList<>();
        for (int s : steps) {
            open.add(s);
        }
        List<int[]> walks = new ArrayList<>();
        while (!open.isEmpty()) {
            walks.add(walk(open));
        }
        return walks;
    }

    /** Takes from the open steps as many as one trace can go through. */
    private static int[] walk(List<Integer> open) {
        List<Integer> walk = new ArrayList<>();
        int step = open.remove(0);
        walk.add(step / 10);
        walk.add(step % 10);
        for (int i = 0; i < open.size() && walk.size() < 15; i++) {
            if (open.get(i) / 10 == walk.get(walk.size() - 1)) {
                walk.add(open.remove(i) % 10);
                i = -1;
            }
        }
        return walk.stream().mapToInt(Integer::intValue).toArray();
    }

    /**
     * Any two of 0 .. 6 follow each other, so many of the 21 couples both ways and the others one way
     * alone: each of those is a greatest causal pair.
     */
    static int[] allSteps(int parallel) {
        List<Integer> steps = new ArrayList<>();
        int left = parallel;
        for (int a = 0; a <= 6; a++) {
            for (int b = a + 1; b <= 6; b++) {
                steps.add(10 * a + b);
                if (left > 0) {
                    steps.add(10 * b + a);
                    left--;
                }
            }
        }
        return steps.stream().mapToInt(Integer::intValue).toArray();
    }
}
