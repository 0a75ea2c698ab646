/** What the document begins with: whether a net is found again from its own traces can be seen. */
public final class FoundAgainTest {
    private static final int SELF_LOOP = 1;
    private static final int SHORT_LOOP = 2;
    private static final int MIXED_CHOICE = 4;

    private FoundAgainTest() {
    }

    public static void main(String[] args) {
        aSequence();
        aChoice();
        parallelOnes();
        aLoopOfThree();
        choiceAndParallelOnes();
        choiceOfFirstAndOfLast();
        notFromTooFewTraces();
        notALoopOfOne();
        notALoopOfTwo();
        notAChoiceThatHangsOnAnEarlierOne();
        notAPlaceThatHoldsNothingBack();
        Check.end();
    }

    /** The traces that the tapes make, from the log's first one on. */
    private static void played(String what, FootprintNet x, int shape, long... tapes) {
        Check.due(what + ": sound(0)", x.sound(0), 1);
        Check.due(what + ": shape(0)", x.shape(0), shape);
        for (int t = 0; t < tapes.length; t++) {
            Check.due(what + ": play(" + tapes[t] + ")", x.play(tapes[t]), t);
            Check.due(what + ": its own trace " + t + " fits", x.fits(0, t), true);
        }
    }

    private static void found(String what, FootprintNet x, int traces) {
        Check.due(what + ": mine()", x.mine(), x.places(0));
        Check.due(what + ": found again", x.same(), true);
        Check.due(what + ": as many markings", x.markings(1), x.markings(0));
        Check.due(what + ": sound(1)", x.sound(1), 1);
        Check.due(what + ": shape(1)", x.shape(1), x.shape(0));
        for (int t = 0; t < traces; t++) {
            Check.due(what + ": trace " + t + " fits the found one", x.fits(1, t), true);
        }
    }

    private static void notFound(String what, FootprintNet x, int first, int last, int... sets) {
        Check.due(what + ": mine()", x.mine(), sets.length / 2);
        Build.foundIs(what, x, first, last, sets);
        Check.due(what + ": not found again", x.same(), false);
    }

    private static void aSequence() {
        FootprintNet x = Build.net(1, 64, 1, 2, 2, 4, 4, 8, 8, 16, 16, 32, 32, 64);
        played("a sequence", x, 0, 0L);
        Build.traceIs("a sequence", x, 0, 0, 1, 2, 3, 4, 5, 6);
        found("a sequence", x, 1);
    }

    private static void aChoice() {
        FootprintNet x = Build.net(1, 16, 1, 2 | 4 | 8, 2 | 4 | 8, 16);
        played("a choice", x, 0, 0L, 1L << 3, 2L << 3);
        Build.traceIs("a choice", x, 2, 0, 3, 4);
        found("a choice", x, 3);
    }

    /** 0 before 1, 2 and 3, in whatever order, and 4 after them. */
    private static void parallelOnes() {
        FootprintNet x = Build.net(1, 16, 1, 2, 1, 4, 1, 8, 2, 16, 4, 16, 8, 16);
        played("parallel ones", x, 0, 0L, 1L << 6, 1L << 3, 1L << 3 | 1L << 6, 2L << 3, 2L << 3 | 1L << 6);
        Build.traceIs("parallel ones", x, 0, 0, 1, 2, 3, 4);
        Build.traceIs("parallel ones", x, 5, 0, 3, 2, 1, 4);
        found("parallel ones", x, 6);
    }

    /** 1 and 2 follow 0, and again after each 3. */
    private static void aLoopOfThree() {
        FootprintNet x = Build.net(1, 16, 1 | 8, 2, 2, 4, 4, 8 | 16);
        played("a loop of three", x, 0, 1L << 9, 1L << 18);
        Build.traceIs("a loop of three", x, 0, 0, 1, 2, 4);
        Build.traceIs("a loop of three", x, 1, 0, 1, 2, 3, 1, 2, 4);
        found("a loop of three", x, 2);
    }

    /** 3, or 1 and 2 in whatever order: after 0 and before 4. */
    private static void choiceAndParallelOnes() {
        FootprintNet x = Build.net(1, 16, 1, 2 | 8, 1, 4 | 8, 2 | 8, 16, 4 | 8, 16);
        played("choice and parallel ones", x, MIXED_CHOICE, 0L, 1L << 3, 2L << 3);
        Build.traceIs("choice and parallel ones", x, 0, 0, 1, 2, 4);
        Build.traceIs("choice and parallel ones", x, 1, 0, 2, 1, 4);
        Build.traceIs("choice and parallel ones", x, 2, 0, 3, 4);
        found("choice and parallel ones", x, 3);
    }

    private static void choiceOfFirstAndOfLast() {
        FootprintNet x = Build.net(3, 24, 3, 4, 4, 24);
        played("choice of first and of last", x, 0, 0L, 1L | 1L << 6);
        Build.traceIs("choice of first and of last", x, 0, 0, 2, 3);
        Build.traceIs("choice of first and of last", x, 1, 1, 2, 4);
        found("choice of first and of last", x, 2);
    }

    private static void notFromTooFewTraces() {
        FootprintNet x = Build.net(1, 8, 1, 2, 1, 4, 2, 8, 4, 8);
        played("one trace of parallel ones", x, 0, 0L);
        notFound("one trace of parallel ones", x, 1, 8, 1, 2, 2, 4, 4, 8);
        Check.due("both traces of parallel ones: play", x.play(1L << 3), 1);
        found("both traces of parallel ones", x, 2);
    }

    private static void notALoopOfOne() {
        FootprintNet x = Build.net(1, 4, 1 | 2, 2 | 4);
        played("a loop of one", x, SELF_LOOP, 1L << 3, 1L << 6, 1L << 9);
        Build.traceIs("a loop of one", x, 2, 0, 1, 1, 2);
        notFound("a loop of one", x, 1, 4, 1, 4);
    }

    private static void notALoopOfTwo() {
        FootprintNet x = Build.net(1, 8, 1 | 4, 2, 2, 4 | 8);
        played("a loop of two", x, SHORT_LOOP, 1L << 6, 1L << 12);
        Build.traceIs("a loop of two", x, 1, 0, 1, 2, 1, 3);
        notFound("a loop of two", x, 1, 8, 1, 2, 2, 8);
    }

    /** After 2 comes 3 if 0 was first, and 4 if 1 was; no two that follow each other show it. */
    private static void notAChoiceThatHangsOnAnEarlierOne() {
        FootprintNet x = Build.net(3, 24, 3, 4, 4, 24, 1, 8, 2, 16);
        played("a choice made before", x, MIXED_CHOICE, 0L, 1L);
        Build.traceIs("a choice made before", x, 0, 0, 2, 3);
        Build.traceIs("a choice made before", x, 1, 1, 2, 4);
        notFound("a choice made before", x, 3, 24, 3, 4, 4, 24);
        Build.trace(x, 0, 2, 4);
        Check.due("a choice made before: 0 2 4 fits the found one", x.fits(1, 2), true);
        Check.due("a choice made before: 0 2 4 does not fit the given one", x.fits(0, 2), false);
    }

    private static void notAPlaceThatHoldsNothingBack() {
        FootprintNet x = Build.net(1, 4, 1, 2, 2, 4, 1, 4);
        played("a place that holds nothing back", x, 0, 0L);
        notFound("a place that holds nothing back", x, 1, 4, 1, 2, 2, 4);
    }
}
