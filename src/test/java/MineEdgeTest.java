/** Both sides of every boundary in finding a net: promise 8, causal and greatest pairs. */
public final class MineEdgeTest {
    private static final int MANY = FootprintNet.MANY;

    private MineEdgeTest() {
    }

    public static void main(String[] args) {
        noLogAndEmptyTraces();
        activitiesAreThoseThatOccur();
        firstAndLastOfShortTraces();
        bothSetsHaveActivities();
        parallelOnesAreNotCausal();
        everyOneCausesEveryOne();
        inputsAreStrangers();
        inputsAreStrangersToThemselves();
        outputsAreStrangers();
        outputsAreStrangersToThemselves();
        greaterInInputs();
        greaterInOutputs();
        greaterInBoth();
        allSevenInOnePair();
        numberedByGrowingInputs();
        numberedByGrowingOutputs();
        theLogAsItIs();
        fourteenPairsAndFifteen();
        fourteenPairsOfManyActivities();
        manyCausalPairsButOneGreatest();
        latestThatAnsweredNoneOrMore();
        manyAsFirstAnswer();
        mineLeavesLogAndNetZero();
        Check.end();
    }

    private static void mined(String what, FootprintNet x, int first, int last, int... sets) {
        Check.due(what + ": mine()", x.mine(), sets.length / 2);
        Build.foundIs(what, x, first, last, sets);
    }

    private static FootprintNet log(int... steps) {
        FootprintNet x = new FootprintNet();
        for (int s : steps) {
            Build.trace(x, s / 10, s % 10);
        }
        return x;
    }

    private static void noLogAndEmptyTraces() {
        FootprintNet x = new FootprintNet();
        mined("8: no trace", x, 0, 0);
        Build.trace(x);
        mined("8: an empty trace", x, 0, 0);
        Check.due("8: without activities", x.same(), true);
        for (int t = 1; t < 20; t++) {
            x.begin();
        }
        mined("8: twenty empty traces", x, 0, 0);
        Check.due("8: still without activities", x.same(), true);
        x.event(6);
        mined("8: one activity in the 20th trace", x, 64, 64);
        Check.due("8: an activity now", x.same(), false);
    }

    /** 3 comes only between two of its own kind, so that no place knows it. */
    private static void activitiesAreThoseThatOccur() {
        FootprintNet x = Build.log(new int[] {0, 3, 3, 0});
        mined("8: 3 is in no place", x, 1, 1);
        Build.trace(x, 3, 0);
        Build.trace(x, 0);
        Build.trace(x, 2, 0);
        Check.due("8: 3 is an activity", x.fits(1, 1), true);
        Check.due("8: 0 alone", x.fits(1, 2), true);
        Check.due("8: 2 is none", x.fits(1, 3), false);
        x.ends(1, 1);
        Check.due("8: net 0 is without 3", x.same(), false);
        x.clear();
        Build.trace(x, 0);
        mined("8: 3 occurs no longer", x, 1, 1);
        Check.due("8: net 1 is without 3", x.same(), true);
    }

    private static void firstAndLastOfShortTraces() {
        FootprintNet x = Build.log(new int[] {5});
        mined("8: one activity begins and ends", x, 32, 32);
        Build.trace(x);
        mined("8: an empty trace has no begin and no end", x, 32, 32);
        Build.trace(x, 0, 6);
        mined("8: two activities", x, 33, 96, 1, 64);
        x.clear();
        Build.trace(x, 2, 1, 1, 1, 1, 1, 1, 1, 1, 1, 1, 1, 1, 1, 4);
        mined("8: fifteen activities", x, 4, 16);
        x.clear();
        for (int a = 0; a <= 6; a++) {
            Build.trace(x, a);
        }
        mined("8: all of them begin and end", x, 127, 127);
    }

    private static void bothSetsHaveActivities() {
        FootprintNet x = Build.log(new int[] {0}, new int[] {6});
        mined("8: strangers alone make no pair with an empty set", x, 65, 65);
        Build.trace(x, 0, 6);
        mined("8: one causes the other", x, 65, 65, 1, 64);
        FootprintNet noOutputs = new FootprintNet();
        FootprintNet noInputs = new FootprintNet();
        for (int b = 1; b <= 6; b++) {
            Build.trace(noOutputs, 0, b, b);
            Build.trace(noInputs, b, b, 0);
        }
        mined("8: 0 causes all others, which follow themselves", noOutputs, 1, 126);
        mined("8: 0 is caused by all others, which follow themselves", noInputs, 126, 1);
    }

    private static void parallelOnesAreNotCausal() {
        FootprintNet x = log(1);
        mined("8: 0 causes 1", x, 1, 2, 1, 2);
        Build.trace(x, 1, 0);
        mined("8: both ways", x, 3, 3);
    }

    private static void everyOneCausesEveryOne() {
        FootprintNet x = log(2, 3, 12);
        mined("8: 1 does not cause 3", x, 3, 12, 1, 12, 3, 4);
        Build.trace(x, 1, 3);
        mined("8: each of 0, 1 causes each of 2, 3", x, 3, 12, 3, 12);
        Build.trace(x, 3, 1);
        mined("8: 1 and 3 are parallel", x, 11, 14, 1, 12, 3, 4);
    }

    private static void inputsAreStrangers() {
        FootprintNet x = log(2, 12);
        mined("8: 0 and 1 are strangers", x, 3, 4, 3, 4);
        Build.trace(x, 0, 1);
        mined("8: 0 causes 1", x, 3, 6, 1, 2, 1, 4, 2, 4);
        Build.trace(x, 1, 0);
        mined("8: 0 and 1 are parallel", x, 3, 7, 1, 4, 2, 4);
    }

    private static void inputsAreStrangersToThemselves() {
        FootprintNet x = log(2, 12);
        Build.trace(x, 0, 2);
        mined("8: 0 is a stranger to itself", x, 3, 4, 3, 4);
        Build.trace(x, 0, 0, 2);
        mined("8: 0 follows itself", x, 3, 4, 2, 4);
        Build.trace(x, 1, 1);
        mined("8: 1 too", x, 3, 6);
    }

    private static void outputsAreStrangers() {
        FootprintNet x = log(1, 2);
        mined("8: 1 and 2 are strangers", x, 1, 6, 1, 6);
        Build.trace(x, 1, 2);
        mined("8: 1 causes 2", x, 3, 6, 1, 2, 1, 4, 2, 4);
        Build.trace(x, 2, 1);
        mined("8: 1 and 2 are parallel", x, 7, 6, 1, 2, 1, 4);
    }

    private static void outputsAreStrangersToThemselves() {
        FootprintNet x = log(1, 2);
        Build.trace(x, 0, 2);
        mined("8: 2 is a stranger to itself", x, 1, 6, 1, 6);
        Build.trace(x, 0, 2, 2);
        mined("8: 2 follows itself", x, 1, 6, 1, 2);
        Build.trace(x, 1, 1);
        mined("8: 1 too", x, 3, 6);
    }

    private static void greaterInInputs() {
        FootprintNet x = log(6);
        mined("8: (0, 6) is greatest", x, 1, 64, 1, 64);
        Build.trace(x, 5, 6);
        mined("8: it is a part of (0 5, 6)", x, 33, 64, 33, 64);
        Build.trace(x, 2, 6);
        mined("8: which is a part of (0 2 5, 6)", x, 37, 64, 37, 64);
    }

    private static void greaterInOutputs() {
        FootprintNet x = log(60);
        mined("8: (6, 0) is greatest", x, 64, 1, 64, 1);
        Build.trace(x, 6, 5);
        mined("8: it is a part of (6, 0 5)", x, 64, 33, 64, 33);
        Build.trace(x, 6, 3);
        mined("8: which is a part of (6, 0 3 5)", x, 64, 41, 64, 41);
    }

    /** (0, 2) is a part of two that are greatest both, and neither of them of the other. */
    private static void greaterInBoth() {
        FootprintNet x = log(2, 12, 3);
        mined("8: a part of both, which are not parts of each other", x, 3, 12, 1, 12, 3, 4);
        Build.trace(x, 4, 2);
        Build.trace(x, 4, 0);
        mined("8: 4 knows 0, not 1", x, 19, 13, 1, 12, 3, 4, 16, 1, 18, 4);
    }

    private static void allSevenInOnePair() {
        FootprintNet x = log(6, 16, 26, 36, 46, 56);
        mined("8: six to one", x, 63, 64, 63, 64);
        FootprintNet y = log(1, 2, 3, 4, 5, 6);
        mined("8: one to six", y, 1, 126, 1, 126);
    }

    /** The inputs grow as numbers: 1 alone (2) before 0 and 2 (5), 0 and 1 (3) before 2 (4). */
    private static void numberedByGrowingInputs() {
        FootprintNet x = log(3, 23, 14);
        mined("8: 2 before 5", x, 7, 24, 2, 16, 5, 8);
        FootprintNet y = log(23, 4, 14);
        mined("8: 3 before 4", y, 7, 24, 3, 16, 4, 8);
        FootprintNet z = log(60, 1);
        mined("8: 1 before 64", z, 65, 3, 1, 2, 64, 1);
    }

    /** The outputs grow as numbers where the inputs are the same: 2 alone (4) before 1 and 3 (10). */
    private static void numberedByGrowingOutputs() {
        FootprintNet x = log(1, 2, 3, 12, 21, 23, 32);
        mined("8: 4 before 10", x, 15, 14, 1, 4, 1, 10);
        FootprintNet y = log(1, 2, 3, 13, 31, 23, 32);
        mined("8: 6 before 8", y, 15, 14, 1, 6, 1, 8);
    }

    private static void theLogAsItIs() {
        FootprintNet x = log(1);
        mined("8: the log as it is", x, 1, 2, 1, 2);
        x.event(2);
        Build.foundIs("8: an event changes the log, not the net", x, 1, 2, 1, 2);
        mined("8: the log as it is now", x, 1, 4, 1, 2, 2, 4);
        x.clear();
        Build.foundIs("8: clear changes the log, not the net", x, 1, 4, 1, 2, 2, 4);
        mined("8: the log is empty now", x, 0, 0);
    }

    private static void fourteenPairsAndFifteen() {
        FootprintNet most = new FootprintNet();
        Build.steps(most, Build.allSteps(7));
        Check.due("8: mine() of 14", most.mine(), 14);
        Check.due("8: places(1) of 14", most.places(1), 14);
        Check.due("8: inputs(1, 13)", most.inputs(1, 13), 32);
        Check.due("8: outputs(1, 13)", most.outputs(1, 13), 64);
        FootprintNet more = new FootprintNet();
        Build.steps(more, Build.allSteps(6));
        Check.due("8: mine() of 15", more.mine(), MANY);
        Check.due("8: places(1) after MANY", more.places(1), 0);
        FootprintNet all = new FootprintNet();
        Build.steps(all, Build.allSteps(0));
        Check.due("8: mine() of 21", all.mine(), MANY);
        FootprintNet turned = new FootprintNet();
        Build.steps(turned, turnedSteps(7));
        Check.due("8: mine() of 14, from high to low", turned.mine(), 14);
        Check.due("8: inputs(1, 0)", turned.inputs(1, 0), 8);
        FootprintNet turnedMore = new FootprintNet();
        Build.steps(turnedMore, turnedSteps(6));
        Check.due("8: mine() of 15, from high to low", turnedMore.mine(), MANY);
    }

    private static int[] turnedSteps(int parallel) {
        int[] steps = Build.allSteps(parallel);
        for (int i = 0; i < steps.length; i++) {
            steps[i] = steps[i] % 10 * 10 + steps[i] / 10;
        }
        return steps;
    }

    private static void fourteenPairsOfManyActivities() {
        FootprintNet x = log(3, 4, 5, 12, 13, 15, 23, 25, 35, 36, 45, 60, 64, 65);
        mined("8: 14 pairs, most of three activities", x, 95, 125, 1, 24, 2, 4, 3, 8, 3, 32, 5, 8,
                5, 32, 8, 64, 18, 32, 20, 32, 24, 32, 64, 1, 64, 16, 66, 32, 68, 32);
        Build.trace(x, 3, 4);
        Check.due("8: one step more makes 15", x.mine(), MANY);
        Check.due("8: places(1) after MANY", x.places(1), 14);
        Check.due("8: outputs(1, 0) after MANY", x.outputs(1, 0), 24);
    }

    /** Any part of the 3 and any part of the 4 are a causal pair: 105 of them. */
    private static void manyCausalPairsButOneGreatest() {
        FootprintNet x = log(3, 4, 5, 6, 13, 14, 15, 16, 23, 24, 25, 26);
        mined("8: three to four", x, 7, 120, 7, 120);
    }

    private static void latestThatAnsweredNoneOrMore() {
        FootprintNet x = Build.log(new int[] {3, 5});
        mined("8: one place", x, 8, 32, 8, 32);
        x.clear();
        Build.steps(x, Build.allSteps(6));
        Check.due("8: mine() of 15", x.mine(), MANY);
        Build.foundIs("8: MANY leaves the net before", x, 8, 32, 8, 32);
        Check.due("8: and its activities", x.markings(1), 3);
        Check.due("8: and that it is sound", x.sound(1), 1);
        x.clear();
        mined("8: an answer of 0 does not leave it", x, 0, 0);
        Check.due("8: nor its activities", x.same(), true);
        Build.trace(x, 3);
        mined("8: one activity that had a place before", x, 8, 8);
        Check.due("8: it puts nothing there now", x.fits(1, 0), true);
        x.clear();
        Build.trace(x, 5);
        mined("8: the other that had a place before", x, 32, 32);
        Check.due("8: it takes nothing from there now", x.fits(1, 0), true);
    }

    private static void manyAsFirstAnswer() {
        FootprintNet x = new FootprintNet();
        Build.steps(x, Build.allSteps(6));
        Check.due("8: mine() of 15", x.mine(), MANY);
        Check.due("8: mine() of 15 again", x.mine(), MANY);
        Build.foundIs("8: net 1 has nothing yet", x, 0, 0);
        Check.due("8: no activities either", x.same(), true);
        Build.trace(x, 6, 5);
        Check.due("8: 14 are left when 5 and 6 are parallel", x.mine(), 14);
    }

    private static void mineLeavesLogAndNetZero() {
        FootprintNet x = Build.net(1, 2, 4, 8);
        Build.trace(x, 5, 6);
        mined("8: net 1", x, 32, 64, 32, 64);
        Build.traceIs("8: the log", x, 0, 5, 6);
        Check.due("8: places(0)", x.places(0), 1);
        Check.due("8: inputs(0, 0)", x.inputs(0, 0), 4);
        Check.due("8: outputs(0, 1)", x.outputs(0, 1), 1);
        Check.due("8: relation(5, 6)", x.relation(5, 6), 1);
    }
}
