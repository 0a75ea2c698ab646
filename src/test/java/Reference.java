import java.util.ArrayDeque;
import java.util.ArrayList;
import java.util.Collections;
import java.util.HashSet;
import java.util.LinkedHashSet;
import java.util.List;
import java.util.Set;

/**
 * The document's words, taken one by one and as slowly as they come: what FootprintNet answers is
 * held against this. It shares no way of working with the program.
 */
final class Reference {
    private final List<List<Integer>> log = new ArrayList<>();
    private GivenOrFound given = new GivenOrFound();
    private GivenOrFound found = new GivenOrFound();

    /** Places are pairs of sets; the last two are the source and the sink. */
    private static final class GivenOrFound {
        private final List<int[]> inner = new ArrayList<>();
        private final Set<Integer> extra = new HashSet<>();
        private int first = 0;
        private int last = 0;

        List<int[]> allPlaces() {
            List<int[]> all = new ArrayList<>(inner);
            all.add(new int[] {0, first});
            all.add(new int[] {last, 0});
            return all;
        }

        boolean hasActivity(int a) {
            return extra.contains(a)
                    || allPlaces().stream().anyMatch(p -> has(p[0], a) || has(p[1], a));
        }

        List<Integer> initial() {
            List<Integer> tokens = new ArrayList<>(Collections.nCopies(inner.size() + 2, 0));
            tokens.set(inner.size(), 1);
            return tokens;
        }

        List<Integer> finalOne() {
            List<Integer> tokens = new ArrayList<>(Collections.nCopies(inner.size() + 2, 0));
            tokens.set(inner.size() + 1, 1);
            return tokens;
        }

        boolean enabled(List<Integer> marking, int a) {
            List<int[]> all = allPlaces();
            for (int k = 0; k < all.size(); k++) {
                if (has(all.get(k)[1], a) && marking.get(k) < 1) {
                    return false;
                }
            }
            return hasActivity(a);
        }

        List<Integer> fire(List<Integer> marking, int a) {
            List<int[]> all = allPlaces();
            List<Integer> after = new ArrayList<>(marking);
            for (int k = 0; k < all.size(); k++) {
                int taken = has(all.get(k)[1], a) ? 1 : 0;
                int put = has(all.get(k)[0], a) ? 1 : 0;
                after.set(k, after.get(k) - taken + put);
            }
            return after;
        }

        /** Those that can be come to from a marking; null when the net is wide. */
        Set<List<Integer>> reachable(List<Integer> from) {
            Set<List<Integer>> seen = new LinkedHashSet<>();
            ArrayDeque<List<Integer>> open = new ArrayDeque<>();
            seen.add(from);
            open.add(from);
            while (!open.isEmpty()) {
                List<Integer> marking = open.remove();
                for (int a = 0; a <= 6; a++) {
                    if (enabled(marking, a)) {
                        List<Integer> after = fire(marking, a);
                        if (seen.add(after)) {
                            open.add(after);
                        }
                        if (seen.size() > 200 || Collections.max(after) > 7) {
                            return null;
                        }
                    }
                }
            }
            return seen;
        }
    }

    private static boolean has(int set, int a) {
        return set / (1 << a) % 2 == 1;
    }

    private GivenOrFound net(int net) {
        return net == 0 ? given : net == 1 ? found : null;
    }

    int begin() {
        if (log.size() == 20) {
            return -2;
        }
        log.add(new ArrayList<>());
        return log.size() - 1;
    }

    boolean event(int a) {
        if (log.isEmpty() || a < 0 || a > 6 || log.get(log.size() - 1).size() == 15) {
            return false;
        }
        return log.get(log.size() - 1).add(a);
    }

    void clear() {
        log.clear();
    }

    int length(int trace) {
        return trace < 0 || trace >= log.size() ? -1 : log.get(trace).size();
    }

    int at(int trace, int i) {
        return i < 0 || i >= length(trace) ? -1 : log.get(trace).get(i);
    }

    private boolean followed(int a, int b) {
        for (List<Integer> trace : log) {
            for (int i = 0; i + 1 < trace.size(); i++) {
                if (trace.get(i) == a && trace.get(i + 1) == b) {
                    return true;
                }
            }
        }
        return false;
    }

    int relation(int a, int b) {
        if (a < 0 || a > 6 || b < 0 || b > 6) {
            return -1;
        }
        if (followed(a, b)) {
            return followed(b, a) ? 3 : 1;
        }
        return followed(b, a) ? 2 : 0;
    }

    private static boolean causal(int[][] relations, int left, int right) {
        for (int a = 0; a <= 6; a++) {
            for (int b = 0; b <= 6; b++) {
                if (has(left, a) && has(right, b) && relations[a][b] != 1
                        || has(left, a) && has(left, b) && relations[a][b] != 0
                        || has(right, a) && has(right, b) && relations[a][b] != 0) {
                    return false;
                }
            }
        }
        return left != 0 && right != 0;
    }

    /** By growing inputs, then growing outputs. */
    private List<int[]> greatestPairs() {
        int[][] relations = new int[7][7];
        for (int a = 0; a <= 6; a++) {
            for (int b = 0; b <= 6; b++) {
                relations[a][b] = relation(a, b);
            }
        }
        List<int[]> pairs = new ArrayList<>();
        for (int left = 0; left <= 127; left++) {
            for (int right = 0; right <= 127; right++) {
                if (causal(relations, left, right)) {
                    pairs.add(new int[] {left, right});
                }
            }
        }
        List<int[]> greatest = new ArrayList<>();
        for (int[] p : pairs) {
            if (pairs.stream().noneMatch(
                    q -> q != p && (p[0] | q[0]) == q[0] && (p[1] | q[1]) == q[1])) {
                greatest.add(p);
            }
        }
        return greatest;
    }

    int mine() {
        List<int[]> pairs = greatestPairs();
        if (pairs.size() > 14) {
            return -2;
        }
        found = new GivenOrFound();
        found.inner.addAll(pairs);
        for (List<Integer> trace : log) {
            found.extra.addAll(trace);
            if (!trace.isEmpty()) {
                found.first |= 1 << trace.get(0);
                found.last |= 1 << trace.get(trace.size() - 1);
            }
        }
        return pairs.size();
    }

    int place(int inputs, int outputs) {
        if (inputs < 1 || inputs > 127 || outputs < 1 || outputs > 127) {
            return -1;
        }
        if (given.inner.stream().anyMatch(p -> p[0] == inputs && p[1] == outputs)) {
            return -4;
        }
        if (given.inner.size() == 14) {
            return -2;
        }
        given.inner.add(new int[] {inputs, outputs});
        return given.inner.size() - 1;
    }

    boolean ends(int first, int last) {
        if (first < 0 || first > 127 || last < 0 || last > 127) {
            return false;
        }
        given.first = first;
        given.last = last;
        return true;
    }

    void reset() {
        given = new GivenOrFound();
    }

    int places(int net) {
        return net(net) == null ? -1 : net(net).inner.size();
    }

    int inputs(int net, int k) {
        if (net(net) == null || k < 0 || k > places(net)) {
            return -1;
        }
        return k == places(net) ? net(net).last : net(net).inner.get(k)[0];
    }

    int outputs(int net, int k) {
        if (net(net) == null || k < 0 || k > places(net)) {
            return -1;
        }
        return k == places(net) ? net(net).first : net(net).inner.get(k)[1];
    }

    boolean fits(int net, int trace) {
        if (net(net) == null || length(trace) < 0) {
            return false;
        }
        List<Integer> marking = net(net).initial();
        for (int a : log.get(trace)) {
            if (!net(net).enabled(marking, a)) {
                return false;
            }
            marking = net(net).fire(marking, a);
        }
        return marking.equals(net(net).finalOne());
    }

    int markings(int net) {
        if (net(net) == null) {
            return -1;
        }
        Set<List<Integer>> all = net(net).reachable(net(net).initial());
        return all == null ? -3 : all.size();
    }

    int sound(int net) {
        GivenOrFound one = net(net);
        if (one == null) {
            return -1;
        }
        Set<List<Integer>> all = one.reachable(one.initial());
        if (all == null) {
            return -3;
        }
        Set<Integer> dead = new HashSet<>();
        for (int a = 0; a <= 6; a++) {
            if (one.hasActivity(a)) {
                dead.add(a);
            }
        }
        for (List<Integer> marking : all) {
            dead.removeIf(a -> one.enabled(marking, a));
            if (marking.get(marking.size() - 1) > 0 && !marking.equals(one.finalOne())) {
                return 0;
            }
        }
        for (List<Integer> marking : all) {
            if (!one.reachable(marking).contains(one.finalOne())) {
                return 0;
            }
        }
        return dead.isEmpty() ? 1 : 0;
    }

    int shape(int net) {
        if (net(net) == null) {
            return -1;
        }
        List<int[]> inner = net(net).inner;
        boolean one = false;
        boolean two = false;
        boolean four = false;
        for (int a = 0; a <= 6; a++) {
            for (int[] p : inner) {
                one |= has(p[0], a) && has(p[1], a);
                for (int b = 0; b <= 6; b++) {
                    for (int[] q : inner) {
                        two |= a != b && has(p[1], a) && has(q[0], a) && has(q[1], b) && has(p[0], b);
                    }
                }
            }
        }
        for (int[] p : net(net).allPlaces()) {
            for (int a = 0; a <= 6; a++) {
                for (int b = 0; b <= 6; b++) {
                    four |= a != b && has(p[1], a) && has(p[1], b) && isOutputElsewhere(net(net), p, a);
                }
            }
        }
        return (one ? 1 : 0) + (two ? 2 : 0) + (four ? 4 : 0);
    }

    /** The place is told by its own inputs and outputs, as no two inner places have the same. */
    private static boolean isOutputElsewhere(GivenOrFound net, int[] place, int a) {
        return net.allPlaces().stream()
                .anyMatch(q -> (q[0] != place[0] || q[1] != place[1]) && has(q[1], a));
    }

    int play(long tape) {
        if (log.size() == 20) {
            return -2;
        }
        List<Integer> fired = new ArrayList<>();
        List<Integer> marking = given.initial();
        String bits = String.format("%64s", Long.toBinaryString(tape)).replace(' ', '0');
        while (!marking.equals(given.finalOne()) && fired.size() < 15) {
            List<Integer> enabled = new ArrayList<>();
            for (int a = 0; a <= 6; a++) {
                if (given.enabled(marking, a)) {
                    enabled.add(a);
                }
            }
            if (enabled.isEmpty()) {
                break;
            }
            int end = 64 - 3 * fired.size();
            int p = Integer.parseInt(bits.substring(end - 3, end), 2);
            int a = enabled.get(p % enabled.size());
            fired.add(a);
            marking = given.fire(marking, a);
        }
        if (!marking.equals(given.finalOne())) {
            return -1;
        }
        log.add(fired);
        return log.size() - 1;
    }

    boolean same() {
        for (int a = 0; a <= 6; a++) {
            if (given.hasActivity(a) != found.hasActivity(a)) {
                return false;
            }
        }
        return given.first == found.first && given.last == found.last
                && pairsOf(given).equals(pairsOf(found));
    }

    private static Set<List<Integer>> pairsOf(GivenOrFound net) {
        Set<List<Integer>> pairs = new HashSet<>();
        for (int[] p : net.inner) {
            pairs.add(List.of(p[0], p[1]));
        }
        return pairs;
    }
}
