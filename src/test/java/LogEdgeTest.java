/** Both sides of every boundary that the document names for the log: promises 1 to 7. */
public final class LogEdgeTest {
    private static final int BAD = FootprintNet.BAD;
    private static final int MANY = FootprintNet.MANY;

    /** On a shift of an int or an array's row, each of these would come back as a right one. */
    private static final int[] NO_ACTIVITIES = {-1, 7, -7, 8, 15, 31, 32, 38, 39, 64, -32, -26,
        Integer.MIN_VALUE, Integer.MIN_VALUE + 1, Integer.MAX_VALUE};
    private static final int[] FAR_NUMBERS = {-1, -2, -15, -20, Integer.MIN_VALUE, Integer.MAX_VALUE};

    private LogEdgeTest() {
    }

    public static void main(String[] args) {
        newObjectHasAnEmptyLog();
        newObjectHasNetsWithoutAnything();
        objectsHaveNothingInCommon();
        beginTellsTheNumber();
        beginAtNineteenAndAtTwenty();
        beginAfterPlaysIsRefusedAtTwentyToo();
        eventWithoutATrace();
        eventAtFourteenAndAtFifteen();
        eventOfActivitiesAndOfOthers();
        eventGoesToTheLatestTrace();
        eventLooksAtTheLatestTraceAlone();
        clearOfAnEmptyAndOfAFullLog();
        clearLeavesNoEvents();
        clearLeavesNoRelations();
        clearLeavesTheNets();
        lengthFromNoneToFifteen();
        lengthOfNumbersAtTheEdge();
        atFirstAndLast();
        atOfAnEmptyTrace();
        atDoesNotReachTheNextTrace();
        atInTheLastTrace();
        atDoesNotWrapAround();
        followedMeansDirectly();
        followedInOneTraceAlone();
        followedAtBothEndsOfFullTraces();
        relationOfOneWithItself();
        relationHasTwoSides();
        relationOfActivitiesAndOfOthers();
        Check.end();
    }

    private static FootprintNet fullLog() {
        FootprintNet x = new FootprintNet();
        for (int t = 0; t < 20; t++) {
            Build.trace(x, t % 7);
        }
        return x;
    }

    /** Fifteen events, by growing numbers from 0 on, again and again. */
    private static void fullTrace(FootprintNet x) {
        Build.trace(x, 0, 1, 2, 3, 4, 5, 6, 0, 1, 2, 3, 4, 5, 6, 0);
    }

    private static void newObjectHasAnEmptyLog() {
        FootprintNet x = new FootprintNet();
        Check.due("1: length(0)", x.length(0), BAD);
        Check.due("1: at(0, 0)", x.at(0, 0), BAD);
        for (int a = 0; a <= 6; a++) {
            for (int b = 0; b <= 6; b++) {
                Check.due("1: relation(" + a + ", " + b + ")", x.relation(a, b), 0);
            }
        }
        Check.due("1: mine()", x.mine(), 0);
        Check.due("1: begin()", x.begin(), 0);
        Check.due("1: length(0) after begin()", x.length(0), 0);
    }

    private static void newObjectHasNetsWithoutAnything() {
        FootprintNet x = new FootprintNet();
        for (int net = 0; net <= 1; net++) {
            Check.due("1: places(" + net + ")", x.places(net), 0);
            Check.due("1: the last ones of net " + net, x.inputs(net, 0), 0);
            Check.due("1: the first ones of net " + net, x.outputs(net, 0), 0);
            Check.due("1: markings(" + net + ")", x.markings(net), 1);
            Check.due("1: shape(" + net + ")", x.shape(net), 0);
            Check.due("1: sound(" + net + ")", x.sound(net), 0);
        }
        Check.due("1: same()", x.same(), true);
        Check.due("1: play(0)", x.play(0L), BAD);
    }

    private static void objectsHaveNothingInCommon() {
        FootprintNet used = fullLog();
        used.mine();
        used.place(1, 2);
        used.ends(1, 2);
        FootprintNet x = new FootprintNet();
        Check.due("1: length(0) beside a used object", x.length(0), BAD);
        Check.due("1: places(0) beside a used object", x.places(0), 0);
        Check.due("1: first ones beside a used object", x.outputs(1, 0), 0);
        x.begin();
        x.clear();
        x.reset();
        Check.due("1: the used one's log", used.length(19), 1);
        Check.due("1: the used one's net 0", used.places(0), 1);
    }

    private static void beginTellsTheNumber() {
        FootprintNet x = new FootprintNet();
        for (int t = 0; t < 20; t++) {
            Check.due("2: begin()", x.begin(), t);
            Check.due("2: the new trace is empty", x.length(t), 0);
            Check.due("2: there is none behind it", x.length(t + 1), BAD);
        }
    }

    private static void beginAtNineteenAndAtTwenty() {
        FootprintNet x = new FootprintNet();
        for (int t = 0; t < 19; t++) {
            x.begin();
        }
        Check.due("2: begin() at 19", x.begin(), 19);
        Check.due("2: begin() at 20", x.begin(), MANY);
        Check.due("2: length(19)", x.length(19), 0);
        Check.due("2: length(20)", x.length(20), BAD);
        Check.due("2: begin() at 20 again", x.begin(), MANY);
        x.clear();
        Check.due("2: begin() at none", x.begin(), 0);
    }

    private static void beginAfterPlaysIsRefusedAtTwentyToo() {
        FootprintNet x = Build.net(1, 1);
        for (int t = 0; t < 19; t++) {
            Check.due("2: play(0)", x.play(0L), t);
        }
        Check.due("2: begin() after 19 plays", x.begin(), 19);
        Check.due("2: begin() after 20", x.begin(), MANY);
    }

    private static void eventWithoutATrace() {
        FootprintNet x = new FootprintNet();
        Check.due("3: event(0) without a trace", x.event(0), false);
        Check.due("3: event(6) without a trace", x.event(6), false);
        Check.due("3: no trace came of it", x.length(0), BAD);
        x.begin();
        Check.due("3: nothing waited for the trace", x.length(0), 0);
        Check.due("3: event(0) with a trace", x.event(0), true);
        x.clear();
        Check.due("3: event(0) after clear()", x.event(0), false);
    }

    private static void eventAtFourteenAndAtFifteen() {
        FootprintNet x = new FootprintNet();
        x.begin();
        for (int i = 0; i < 14; i++) {
            Check.due("3: event at " + i, x.event(5), true);
        }
        Check.due("3: event at 14", x.event(4), true);
        Check.due("3: event at 15", x.event(3), false);
        Check.due("3: event at 15 again", x.event(5), false);
        Check.due("3: length(0)", x.length(0), 15);
        Check.due("3: at(0, 14)", x.at(0, 14), 4);
        Check.due("3: at(0, 15)", x.at(0, 15), BAD);
        Check.due("3: the 15th follows", x.relation(5, 4), 1);
        Check.due("3: the 16th does not", x.relation(4, 3), 0);
        Check.due("3: nor the 17th", x.relation(4, 5), 2);
    }

    private static void eventOfActivitiesAndOfOthers() {
        FootprintNet x = new FootprintNet();
        x.begin();
        for (int a : NO_ACTIVITIES) {
            Check.due("3: event(" + a + ")", x.event(a), false);
        }
        Check.due("3: length after wrong ones", x.length(0), 0);
        for (int a = 0; a <= 6; a++) {
            Check.due("3: event(" + a + ")", x.event(a), true);
            for (int wrong : NO_ACTIVITIES) {
                Check.due("3: event(" + wrong + ")", x.event(wrong), false);
            }
        }
        Build.traceIs("3: the right ones alone", x, 0, 0, 1, 2, 3, 4, 5, 6);
    }

    private static void eventGoesToTheLatestTrace() {
        FootprintNet x = Build.net(1, 1);
        Build.trace(x, 3);
        Build.trace(x);
        Check.due("3: event(4)", x.event(4), true);
        Build.traceIs("3: the trace before", x, 0, 3);
        Build.traceIs("3: the latest", x, 1, 4);
        Check.due("3: play(0)", x.play(0L), 2);
        Check.due("3: event(5) after play", x.event(5), true);
        Build.traceIs("3: the trace that was made", x, 2, 0, 5);
        FootprintNet full = fullLog();
        Check.due("3: begin() at 20", full.begin(), MANY);
        Check.due("3: event(2) after it", full.event(2), true);
        Build.traceIs("3: the 20th is the latest still", full, 19, 5, 2);
    }

    private static void eventLooksAtTheLatestTraceAlone() {
        FootprintNet x = new FootprintNet();
        fullTrace(x);
        Build.trace(x, 1);
        Check.due("3: an earlier trace is full", x.event(2), true);
        fullTrace(x);
        Check.due("3: the latest is full, earlier ones are not", x.event(2), false);
        Build.traceIs("3: an earlier one", x, 1, 1, 2);
        Check.due("3: a trace of 15 can be made by play", madeOfFifteen().length(0), 15);
        Check.due("3: and is full then", madeOfFifteen().event(0), false);
    }

    /** 0, then 2 thirteen times, then 1. */
    private static FootprintNet madeOfFifteen() {
        FootprintNet x = Build.net(1, 2, 1 | 4, 4 | 2);
        long tape = 0L;
        for (int i = 1; i <= 13; i++) {
            tape |= 1L << 3 * i;
        }
        Check.due("3: play", x.play(tape), 0);
        return x;
    }

    private static void clearOfAnEmptyAndOfAFullLog() {
        FootprintNet x = new FootprintNet();
        x.clear();
        Check.due("4: length(0) after clear() of nothing", x.length(0), BAD);
        Check.due("4: begin() after clear() of nothing", x.begin(), 0);
        FootprintNet full = fullLog();
        full.clear();
        full.clear();
        for (int t = 0; t < 20; t++) {
            Check.due("4: length(" + t + ") after clear()", full.length(t), BAD);
        }
        for (int t = 0; t < 20; t++) {
            Check.due("4: begin() after clear()", full.begin(), t);
        }
        Check.due("4: begin() at 20 again", full.begin(), MANY);
    }

    private static void clearLeavesNoEvents() {
        FootprintNet x = new FootprintNet();
        fullTrace(x);
        fullTrace(x);
        x.clear();
        Build.trace(x);
        Build.trace(x, 6);
        Check.due("4: length(0)", x.length(0), 0);
        Check.due("4: at(0, 0)", x.at(0, 0), BAD);
        Check.due("4: length(1)", x.length(1), 1);
        Check.due("4: at(1, 0)", x.at(1, 0), 6);
        Check.due("4: at(1, 1)", x.at(1, 1), BAD);
    }

    private static void clearLeavesNoRelations() {
        FootprintNet x = new FootprintNet();
        Build.trace(x, 0, 1, 0, 0, 6);
        x.clear();
        for (int a = 0; a <= 6; a++) {
            for (int b = 0; b <= 6; b++) {
                Check.due("4: relation(" + a + ", " + b + ")", x.relation(a, b), 0);
            }
        }
        Build.trace(x, 6);
        Check.due("4: the old end is not followed by the new begin", x.relation(6, 6), 0);
        Check.due("4: mine()", x.mine(), 0);
        Build.foundIs("4: nothing of the old log", x, 64, 64);
    }

    private static void clearLeavesTheNets() {
        FootprintNet x = Build.net(3, 5, 1, 2);
        Build.trace(x, 4, 6);
        x.mine();
        x.clear();
        Check.due("4: places(0)", x.places(0), 1);
        Check.due("4: inputs(0, 1)", x.inputs(0, 1), 5);
        Check.due("4: outputs(0, 1)", x.outputs(0, 1), 3);
        Build.foundIs("4: net 1", x, 16, 64, 16, 64);
    }

    private static void lengthFromNoneToFifteen() {
        FootprintNet x = new FootprintNet();
        x.begin();
        Check.due("5: an empty trace", x.length(0), 0);
        for (int i = 1; i <= 15; i++) {
            x.event(i % 7);
            Check.due("5: after " + i, x.length(0), i);
        }
        x.event(0);
        Check.due("5: a full one", x.length(0), 15);
    }

    private static void lengthOfNumbersAtTheEdge() {
        FootprintNet x = new FootprintNet();
        Check.due("5: length(0) of an empty log", x.length(0), BAD);
        for (int t = 0; t < 20; t++) {
            Check.due("5: length(" + t + ") before begin()", x.length(t), BAD);
            x.begin();
            Check.due("5: length(" + t + ")", x.length(t), 0);
            for (int far : FAR_NUMBERS) {
                Check.due("5: length(" + far + ")", x.length(far), BAD);
            }
        }
        Check.due("5: length(20)", x.length(20), BAD);
        Check.due("5: length(21)", x.length(21), BAD);
    }

    private static void atFirstAndLast() {
        FootprintNet x = new FootprintNet();
        Build.trace(x, 6, 0, 5);
        Check.due("6: at(0, -1)", x.at(0, -1), BAD);
        Check.due("6: at(0, 0)", x.at(0, 0), 6);
        Check.due("6: at(0, 1)", x.at(0, 1), 0);
        Check.due("6: at(0, 2)", x.at(0, 2), 5);
        Check.due("6: at(0, 3)", x.at(0, 3), BAD);
        Check.due("6: at(-1, 0)", x.at(-1, 0), BAD);
        Check.due("6: at(1, 0)", x.at(1, 0), BAD);
        Check.due("6: at(1, -1)", x.at(1, -1), BAD);
        for (int far : FAR_NUMBERS) {
            Check.due("6: at(0, " + far + ")", x.at(0, far), BAD);
            Check.due("6: at(" + far + ", 0)", x.at(far, 0), BAD);
            Check.due("6: at(" + far + ", " + far + ")", x.at(far, far), BAD);
        }
    }

    private static void atOfAnEmptyTrace() {
        FootprintNet x = new FootprintNet();
        x.begin();
        Check.due("6: at(0, 0) of an empty trace", x.at(0, 0), BAD);
        x.event(0);
        Check.due("6: at(0, 0) with one activity", x.at(0, 0), 0);
        Check.due("6: at(0, 1) with one activity", x.at(0, 1), BAD);
    }

    private static void atDoesNotReachTheNextTrace() {
        FootprintNet x = new FootprintNet();
        fullTrace(x);
        fullTrace(x);
        Build.trace(x, 3);
        Check.due("6: at(0, 14)", x.at(0, 14), 0);
        Check.due("6: at(0, 15)", x.at(0, 15), BAD);
        Check.due("6: at(0, 16)", x.at(0, 16), BAD);
        Check.due("6: at(1, -1)", x.at(1, -1), BAD);
        Check.due("6: at(1, 14)", x.at(1, 14), 0);
        Check.due("6: at(1, 15)", x.at(1, 15), BAD);
        Check.due("6: at(2, -15)", x.at(2, -15), BAD);
        Check.due("6: at(-1, 15)", x.at(-1, 15), BAD);
        Check.due("6: at(3, -15)", x.at(3, -15), BAD);
    }

    private static void atInTheLastTrace() {
        FootprintNet x = new FootprintNet();
        for (int t = 0; t < 19; t++) {
            x.begin();
        }
        Build.trace(x, 1, 1, 1, 1, 1, 1, 1, 1, 1, 1, 1, 1, 1, 2, 6);
        Check.due("6: at(19, 0)", x.at(19, 0), 1);
        Check.due("6: at(19, 13)", x.at(19, 13), 2);
        Check.due("6: at(19, 14)", x.at(19, 14), 6);
        Check.due("6: at(19, 15)", x.at(19, 15), BAD);
        Check.due("6: at(20, 0)", x.at(20, 0), BAD);
        Check.due("6: at(20, -1)", x.at(20, -1), BAD);
        Check.due("6: at(18, 0)", x.at(18, 0), BAD);
        Check.due("6: at(18, 15)", x.at(18, 15), BAD);
    }

    /** In an int, 286331153 * 15 is -1 and 858993459 * 15 is -3: a row of fifteens would be met again. */
    private static void atDoesNotWrapAround() {
        FootprintNet x = new FootprintNet();
        fullTrace(x);
        Check.due("6: at(286331153, 1)", x.at(286331153, 1), BAD);
        Check.due("6: at(286331153, 2)", x.at(286331153, 2), BAD);
        Check.due("6: at(-286331153, -1)", x.at(-286331153, -1), BAD);
        Check.due("6: at(858993459, 3)", x.at(858993459, 3), BAD);
        Check.due("6: at(1 << 30, 0)", x.at(1 << 30, 0), BAD);
        Check.due("6: at(0, 1 << 31)", x.at(0, 1 << 31), BAD);
    }

    private static void followedMeansDirectly() {
        FootprintNet x = new FootprintNet();
        Build.trace(x, 0, 1, 2);
        Check.due("7: directly", x.relation(0, 1), 1);
        Check.due("7: with one between", x.relation(0, 2), 0);
        Check.due("7: the other way round", x.relation(1, 0), 2);
    }

    private static void followedInOneTraceAlone() {
        FootprintNet x = new FootprintNet();
        Build.trace(x, 0, 1);
        Build.trace(x);
        Build.trace(x, 2, 3);
        Build.trace(x, 4);
        Build.trace(x, 4);
        Check.due("7: from trace to trace", x.relation(1, 2), 0);
        Check.due("7: from trace to next trace", x.relation(3, 4), 0);
        Check.due("7: twice, but in two traces", x.relation(4, 4), 0);
        Check.due("7: in one trace", x.relation(2, 3), 1);
    }

    private static void followedAtBothEndsOfFullTraces() {
        FootprintNet x = new FootprintNet();
        Build.trace(x, 1, 2, 0, 0, 0, 0, 0, 0, 0, 0, 0, 0, 0, 3, 4);
        for (int t = 1; t < 19; t++) {
            x.begin();
        }
        Build.trace(x, 5, 6, 0, 0, 0, 0, 0, 0, 0, 0, 0, 0, 0, 2, 5);
        Check.due("7: the first step of trace 0", x.relation(1, 2), 1);
        Check.due("7: the last step of trace 0", x.relation(3, 4), 1);
        Check.due("7: the first step of trace 19", x.relation(5, 6), 1);
        Check.due("7: the last step of trace 19", x.relation(2, 5), 1);
        Check.due("7: no step from end to begin", x.relation(4, 1), 0);
    }

    private static void relationOfOneWithItself() {
        FootprintNet x = new FootprintNet();
        Build.trace(x, 0);
        Build.trace(x, 1, 2, 1);
        Build.trace(x, 3, 3);
        Check.due("7: 0 occurs once", x.relation(0, 0), 0);
        Check.due("7: 1 comes again, not directly", x.relation(1, 1), 0);
        Check.due("7: 3 comes directly after itself", x.relation(3, 3), 3);
        Check.due("7: 6 occurs never", x.relation(6, 6), 0);
    }

    private static void relationHasTwoSides() {
        FootprintNet x = new FootprintNet();
        Check.due("7: neither", x.relation(0, 6), 0);
        Check.due("7: neither, turned", x.relation(6, 0), 0);
        Build.trace(x, 0, 6);
        Check.due("7: a causes b", x.relation(0, 6), 1);
        Check.due("7: b causes a", x.relation(6, 0), 2);
        Build.trace(x, 6, 0);
        Check.due("7: each the other", x.relation(0, 6), 3);
        Check.due("7: each the other, turned", x.relation(6, 0), 3);
    }

    private static void relationOfActivitiesAndOfOthers() {
        FootprintNet x = new FootprintNet();
        Build.trace(x, 6, 6, 0, 0);
        for (int wrong : NO_ACTIVITIES) {
            Check.due("7: relation(" + wrong + ", 0)", x.relation(wrong, 0), BAD);
            Check.due("7: relation(0, " + wrong + ")", x.relation(0, wrong), BAD);
            Check.due("7: relation(6, " + wrong + ")", x.relation(6, wrong), BAD);
            Check.due("7: relation(" + wrong + ", 6)", x.relation(wrong, 6), BAD);
            Check.due("7: relation of " + wrong + " with itself", x.relation(wrong, wrong), BAD);
        }
        Check.due("7: relation(0, 0)", x.relation(0, 0), 3);
        Check.due("7: relation(6, 6)", x.relation(6, 6), 3);
        Check.due("7: relation(6, 0)", x.relation(6, 0), 1);
    }
}
