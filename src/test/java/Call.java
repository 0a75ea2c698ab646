import java.util.ArrayList;
import java.util.Arrays;
import java.util.List;
import java.util.function.ToLongFunction;

/** One call with its arguments, so that the same run of calls can be made on several objects. */
record Call(String name, ToLongFunction<FootprintNet> made) {
    /** What the document lets an object be used for. */
    static final int MOST = 512;

    /** The answers of a new object to a run of calls; a call without an answer counts 0. */
    static List<String> answers(List<Call> calls) {
        FootprintNet x = new FootprintNet();
        List<String> answers = new ArrayList<>();
        for (Call call : calls) {
            answers.add(call.name + " answered " + call.made.applyAsLong(x));
        }
        Check.holds("a run of " + calls.size() + " calls", calls.size() <= MOST);
        return answers;
    }

    @SafeVarargs
    static List<Call> run(List<Call>... parts) {
        List<Call> all = new ArrayList<>();
        for (List<Call> part : parts) {
            all.addAll(part);
        }
        return all;
    }

    private static long told(boolean answer) {
        return answer ? 1L : 0L;
    }

    static Call begin() {
        return new Call("begin()", x -> x.begin());
    }

    static Call event(int a) {
        return new Call("event(" + a + ")", x -> told(x.event(a)));
    }

    static Call clear() {
        return new Call("clear()", x -> {
            x.clear();
            return 0L;
        });
    }

    static Call length(int trace) {
        return new Call("length(" + trace + ")", x -> x.length(trace));
    }

    static Call at(int trace, int i) {
        return new Call("at(" + trace + ", " + i + ")", x -> x.at(trace, i));
    }

    static Call relation(int a, int b) {
        return new Call("relation(" + a + ", " + b + ")", x -> x.relation(a, b));
    }

    static Call mine() {
        return new Call("mine()", x -> x.mine());
    }

    static Call place(int inputs, int outputs) {
        return new Call("place(" + inputs + ", " + outputs + ")", x -> x.place(inputs, outputs));
    }

    static Call ends(int first, int last) {
        return new Call("ends(" + first + ", " + last + ")", x -> told(x.ends(first, last)));
    }

    static Call reset() {
        return new Call("reset()", x -> {
            x.reset();
            return 0L;
        });
    }

    static Call places(int net) {
        return new Call("places(" + net + ")", x -> x.places(net));
    }

    static Call inputs(int net, int k) {
        return new Call("inputs(" + net + ", " + k + ")", x -> x.inputs(net, k));
    }

    static Call outputs(int net, int k) {
        return new Call("outputs(" + net + ", " + k + ")", x -> x.outputs(net, k));
    }

    static Call fits(int net, int trace) {
        return new Call("fits(" + net + ", " + trace + ")", x -> told(x.fits(net, trace)));
    }

    static Call markings(int net) {
        return new Call("markings(" + net + ")", x -> x.markings(net));
    }

    static Call sound(int net) {
        return new Call("sound(" + net + ")", x -> x.sound(net));
    }

    static Call shape(int net) {
        return new Call("shape(" + net + ")", x -> x.shape(net));
    }

    static Call play(long tape) {
        return new Call("play(" + tape + ")", x -> x.play(tape));
    }

    static Call same() {
        return new Call("same()", x -> told(x.same()));
    }

    static List<Call> trace(int... activities) {
        List<Call> calls = new ArrayList<>(List.of(begin()));
        Arrays.stream(activities).forEach(a -> calls.add(event(a)));
        return calls;
    }

    /** Pairs of inputs and outputs, one after the other. */
    static List<Call> net(int first, int last, int... sets) {
        List<Call> calls = new ArrayList<>(List.of(ends(first, last)));
        for (int k = 0; k < sets.length; k += 2) {
            calls.add(place(sets[k], sets[k + 1]));
        }
        return calls;
    }
}
