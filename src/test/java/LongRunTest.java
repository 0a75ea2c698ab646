import java.util.ArrayList;
import java.util.List;

/** An object is used for at most 512 calls: the 512th is answered as the first would be. */
public final class LongRunTest {
    private LongRunTest() {
    }

    public static void main(String[] args) {
        lastCallIsAsDue("2: begin at 20, for ever", List.of(), List.of(Call.begin()), Call.begin(), -2);
        lastCallIsAsDue("3: event at 15, for ever", List.of(Call.begin()), List.of(Call.event(3)),
                Call.length(0), 15);
        lastCallIsAsDue("4: clear and begin", List.of(), List.of(Call.begin(), Call.clear()),
                Call.begin(), 0);
        lastCallIsAsDue("8: 14 pairs", pairs(7), List.of(Call.mine()), Call.mine(), 14);
        lastCallIsAsDue("8: 15 pairs", pairs(6), List.of(Call.mine()), Call.mine(), -2);
        lastCallIsAsDue("9: place at 14, for ever", fourteen(), List.of(Call.place(99, 99)),
                Call.place(98, 99), -2);
        lastCallIsAsDue("11: reset and place", List.of(), List.of(Call.place(1, 2), Call.reset()),
                Call.place(1, 2), 0);
        lastCallIsAsDue("16: 200 markings", most(), List.of(Call.markings(0)), Call.markings(0), 200);
        lastCallIsAsDue("17: 200 markings", most(), List.of(Call.sound(0)), Call.sound(0), 0);
        lastCallIsAsDue("16: wide, then not", wide(), List.of(Call.markings(0), Call.markings(1)),
                Call.markings(1), 1);
        lastCallIsAsDue("18: 14 places", fourteen(), List.of(Call.shape(0)), Call.shape(0), 7);
        lastCallIsAsDue("19: play at 20, for ever", Call.net(1, 1), List.of(Call.play(-1L)),
                Call.play(0L), -2);
        lastCallIsAsDue("19: play that does not end", Call.net(1, 2, 5, 6), List.of(Call.play(-1L)),
                Call.play(0L), 0);
        lastCallIsAsDue("19: play and clear", Call.net(1, 1), List.of(Call.play(-1L), Call.clear()),
                Call.play(0L), 0);
        lastCallIsAsDue("20: same", Call.run(Call.net(1, 1), Call.trace(0)),
                List.of(Call.mine(), Call.same()), Call.same(), 1);
        fullLogAndFullNetInOneObject();
        Check.end();
    }

    private static List<Call> pairs(int parallel) {
        List<Call> calls = new ArrayList<>();
        for (int[] walk : Build.walks(Build.allSteps(parallel))) {
            calls.addAll(Call.trace(walk));
        }
        return calls;
    }

    private static List<Call> fourteen() {
        List<Call> calls = new ArrayList<>();
        for (int k = 1; k <= 14; k++) {
            calls.add(Call.place(k, 3));
        }
        return calls;
    }

    private static List<Call> most() {
        return Call.net(1, 64, 33, 48, 89, 44, 61, 98, 50, 66, 117, 120);
    }

    private static List<Call> wide() {
        return Call.net(1, 64, 113, 10, 49, 84, 38, 8, 1, 96, 105, 80);
    }

    private static void lastCallIsAsDue(String what, List<Call> before, List<Call> again, Call last,
            long due) {
        List<Call> calls = new ArrayList<>(before);
        while (calls.size() + again.size() < Call.MOST) {
            calls.addAll(again);
        }
        while (calls.size() < Call.MOST - 1) {
            calls.add(Call.same());
        }
        calls.add(last);
        String told = Call.answers(calls).get(Call.MOST - 1);
        Check.holds(what + ", the 512th call: " + told + ", due is " + due,
                told.equals(last.name() + " answered " + due));
    }

    /** 20 begins, 300 events, 14 places and the ends: 335 calls, and both limits are met. */
    private static void fullLogAndFullNetInOneObject() {
        FootprintNet x = new FootprintNet();
        for (int t = 0; t < 20; t++) {
            Build.trace(x, 0, 1, 2, 3, 4, 5, 6, 0, 1, 2, 3, 4, 5, 6, t % 7);
        }
        x.ends(1, 127);
        for (int k = 1; k <= 14; k++) {
            Check.due("9: place", x.place(k, 127), k - 1);
        }
        for (int t = 0; t < 20; t++) {
            Check.due("5: length(" + t + ")", x.length(t), 15);
            Check.due("6: at(" + t + ", 14)", x.at(t, 14), t % 7);
            Check.due("6: at(" + t + ", 0)", x.at(t, 0), 0);
            Check.due("15: fits(0, " + t + ")", x.fits(0, t), false);
        }
        Check.due("2: begin()", x.begin(), FootprintNet.MANY);
        Check.due("3: event(0)", x.event(0), false);
        Check.due("9: place(15, 127)", x.place(15, 127), FootprintNet.MANY);
        Check.due("19: play(0)", x.play(0L), FootprintNet.MANY);
    }
}
