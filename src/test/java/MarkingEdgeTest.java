/** Both sides of every boundary of reachable markings and soundness: promises 16 and 17. */
public final class MarkingEdgeTest {
    private static final int BAD = FootprintNet.BAD;
    private static final int WIDE = FootprintNet.WIDE;

    private static final int[] NO_NETS = {-1, 2, -2, 3, 256, 257, Integer.MIN_VALUE,
        Integer.MIN_VALUE + 1, Integer.MAX_VALUE};

    /** First 0, last 6; told are the most tokens of a place, and how many markings are reachable. */
    private static final int[] SEVEN_IN_200 = {33, 48, 89, 44, 61, 98, 50, 66, 117, 120};
    private static final int[] EIGHT_IN_200 = {31, 106, 1, 66, 3, 80, 54, 44, 91, 70};
    private static final int[] SEVEN_IN_201 = {113, 10, 49, 84, 38, 8, 1, 96, 105, 80};

    /** They differ in one place; the second would be sound as well, if 8 were not too many. */
    private static final int[] SOUND_WITH_SEVEN = {33, 66, 17, 96, 5, 72, 9, 80, 3, 68, 35, 76};
    private static final int[] SOUND_BUT_EIGHT = {33, 66, 17, 96, 7, 88, 9, 80, 3, 68, 35, 76};

    private MarkingEdgeTest() {
    }

    public static void main(String[] args) {
        firingNone();
        firingOnce();
        markingsOfNoNet();
        markingsOfEachNet();
        twoHundredMarkingsAndMore();
        sevenTokensAndEightInTheSink();
        sevenTokensAndEightInEachInnerPlace();
        sevenTokensAndEightInTheFourteenth();
        endlessTokens();
        unreachableMarkingsDoNotCount();
        alwaysEnabledAndNothingChanged();
        aWideNetLeavesNothingBehind();
        markingsFollowTheNet();
        soundOfNoNet();
        soundOfEachNet();
        theInitialMarkingAlone();
        theFinalMarkingByFiringNone();
        fromEveryMarking();
        fromEveryMarkingOfALoop();
        aDeadEnd();
        noTokenInTheSinkButInTheFinalOne();
        twoTokensInTheSink();
        eachActivityIsEnabled();
        enabledInOneMarkingAlone();
        eachActivityOfTheFoundNet();
        soundAtSevenTokensAndEight();
        soundAtTwoHundredMarkingsAndMore();
        wideBeforeUnsound();
        soundWithManyMarkings();
        Check.end();
    }

    private static void both(String what, FootprintNet x, int markings, int sound) {
        Check.due(what + ": markings(0)", x.markings(0), markings);
        Check.due(what + ": sound(0)", x.sound(0), sound);
    }

    /** The same net with its places numbered otherwise: the first ones come last. */
    private static int[] turned(int[] sets, int places) {
        int[] all = new int[sets.length];
        for (int i = 0; i < sets.length; i++) {
            all[i] = sets[(i + 2 * places) % sets.length];
        }
        return all;
    }

    private static void firingNone() {
        Check.due("16: an empty net has its initial marking", new FootprintNet().markings(0), 1);
        Check.due("16: the found one too", new FootprintNet().markings(1), 1);
        Check.due("16: 0 waits for itself", Build.net(1, 1, 1, 1).markings(0), 1);
        Check.due("16: all wait for each other", Build.net(1, 2, 1, 2, 2, 1, 64, 64).markings(0), 1);
    }

    private static void firingOnce() {
        Check.due("16: 0 fires once", Build.net(1, 1).markings(0), 2);
        Check.due("16: 0 fires once, and puts nothing", Build.net(1, 0).markings(0), 2);
        Check.due("16: 0 or 6, and the same comes of it", Build.net(65, 65).markings(0), 2);
        Check.due("16: 0 or 6, and another comes of it", Build.net(65, 1).markings(0), 3);
        Check.due("16: all seven", Build.net(127, 127).markings(0), 2);
    }

    private static void markingsOfNoNet() {
        FootprintNet x = Build.net(1, 1);
        for (int net : NO_NETS) {
            Check.due("16: markings(" + net + ")", x.markings(net), BAD);
        }
        x.place(4, 8);
        Check.due("16: markings(0) of a wide net", x.markings(0), WIDE);
        for (int net : NO_NETS) {
            Check.due("16: markings(" + net + ") beside a wide net", x.markings(net), BAD);
        }
    }

    private static void markingsOfEachNet() {
        FootprintNet x = Build.net(1, 8, 1, 2, 1, 4, 2, 8, 4, 8);
        Build.trace(x, 0, 1);
        x.mine();
        Check.due("16: markings(0)", x.markings(0), 6);
        Check.due("16: markings(1)", x.markings(1), 3);
    }

    private static void twoHundredMarkingsAndMore() {
        for (int k = 0; k < 5; k++) {
            FootprintNet most = Build.net(1, 64, turned(SEVEN_IN_200, k));
            Check.due("16: 200 markings", most.markings(0), 200);
            FootprintNet more = Build.net(1, 64, turned(SEVEN_IN_201, k));
            Check.due("16: 201 markings", more.markings(0), WIDE);
        }
        Check.due("16: 200 markings, four in the sink",
                Build.net(1, 4, 65, 8, 17, 2, 9, 16, 19, 64, 10, 4, 1, 16).markings(0), 200);
        Check.due("16: 201 markings, no place with more than four",
                Build.net(1, 16, 8, 32, 1, 64, 5, 16, 1, 4, 5, 2, 67, 8, 17, 64).markings(0), WIDE);
    }

    /** 0 puts a token for each of the others, 6 has one more where 5 puts it, too. */
    private static void sevenTokensAndEightInTheSink() {
        FootprintNet seven = Build.net(1, 127, 1, 2, 1, 4, 1, 8, 1, 16, 1, 32, 1, 64);
        Check.due("16: 7 in the sink, 65 markings", seven.markings(0), 65);
        FootprintNet eight = Build.net(1, 127, 1, 2, 1, 4, 1, 8, 1, 16, 1, 32, 1 | 32, 64);
        Check.due("16: 8 in the sink, 81 markings", eight.markings(0), WIDE);
    }

    private static void sevenTokensAndEightInEachInnerPlace() {
        for (int k = 0; k < 5; k++) {
            FootprintNet seven = Build.net(1, 64, turned(SEVEN_IN_200, k));
            Check.due("16: 7 in an inner place, 200 markings", seven.markings(0), 200);
            FootprintNet eight = Build.net(1, 64, turned(EIGHT_IN_200, k));
            Check.due("16: 8 in an inner place, 200 markings", eight.markings(0), WIDE);
        }
        for (int k = 0; k < 6; k++) {
            FootprintNet seven = Build.net(1, 64, turned(SOUND_WITH_SEVEN, k));
            Check.due("16: 7 in an inner place, 95 markings", seven.markings(0), 95);
            FootprintNet eight = Build.net(1, 64, turned(SOUND_BUT_EIGHT, k));
            Check.due("16: 8 in an inner place, 92 markings", eight.markings(0), WIDE);
        }
    }

    /**
     * The last place gets a token each time that one of 0 .. 5 fires: 5 can fire twice, and so can 4
     * if 0 and 1 come before it.
     */
    private static void sevenTokensAndEightInTheFourteenth() {
        for (int k = 0; k < 14; k++) {
            FootprintNet seven = Build.net(1, 64, turned(fourteenPlaces(1), k));
            Check.due("16: 7 in one of 14 inner places", seven.markings(0), 81);
            FootprintNet eight = Build.net(1, 64, turned(fourteenPlaces(3), k));
            Check.due("16: 8 in one of 14 inner places", eight.markings(0), WIDE);
        }
    }

    private static int[] fourteenPlaces(int beforeFour) {
        return new int[] {1, 2, 1, 4, 1, 8, beforeFour, 16, 3, 32, 1, 64,
            3, 2, 5, 4, 9, 8, 17, 16, 33, 32, 65, 64, 7, 6, 127, 64};
    }

    private static void endlessTokens() {
        Check.due("16: 1 fills an inner place", Build.net(1, 1, 2, 1).markings(0), WIDE);
        Check.due("16: 1 fills the sink", Build.net(1, 2).markings(0), WIDE);
        Check.due("16: 1 fills the sink, none takes from the source", Build.net(0, 2).markings(0), WIDE);
        Check.due("16: a loop fills a place", Build.net(1, 4, 3, 6, 2, 8).markings(0), WIDE);
        Check.due("16: a loop fills none", Build.net(1, 4, 3, 6).markings(0), 3);
        Check.due("16: filled and emptied for ever", Build.net(1, 1, 2, 4).markings(0), WIDE);
    }

    private static void unreachableMarkingsDoNotCount() {
        Check.due("16: 1 would fill a place, but waits for itself",
                Build.net(1, 1, 2, 2, 2, 4).markings(0), 2);
        Check.due("16: 1 would fill the sink, but waits for itself",
                Build.net(1, 3, 2, 2).markings(0), 2);
        Check.due("16: 1 fills the sink once the first token is there",
                Build.net(1, 2, 3, 2).markings(0), WIDE);
    }

    private static void alwaysEnabledAndNothingChanged() {
        FootprintNet x = Build.log(new int[] {0, 2, 2, 0});
        x.mine();
        Check.due("16: 2 changes nothing", x.markings(1), 2);
        x.clear();
        Build.trace(x, 0);
        x.mine();
        Check.due("16: as without it", x.markings(1), 2);
        x.clear();
        Build.trace(x, 0, 2, 2);
        x.mine();
        Check.due("16: 2 is a last one, and fills the sink", x.markings(1), WIDE);
        x.clear();
        Build.trace(x, 2, 2, 0);
        x.mine();
        Check.due("16: 2 is a first one, and 0 fills the sink", x.markings(1), WIDE);
    }

    private static void aWideNetLeavesNothingBehind() {
        FootprintNet x = Build.net(1, 64, SEVEN_IN_201);
        Build.trace(x, 0, 1);
        x.mine();
        Check.due("16: markings(0)", x.markings(0), WIDE);
        Check.due("16: markings(1) after it", x.markings(1), 3);
        Check.due("17: sound(0)", x.sound(0), WIDE);
        Check.due("17: sound(1) after it", x.sound(1), 1);
        Check.due("16: markings(0) after that", x.markings(0), WIDE);
        x.reset();
        Check.due("16: markings(0) after reset()", x.markings(0), 1);
        Check.due("17: sound(0) after reset()", x.sound(0), 0);
    }

    private static void markingsFollowTheNet() {
        FootprintNet x = new FootprintNet();
        Check.due("16: nothing", x.markings(0), 1);
        x.ends(1, 2);
        Check.due("16: 1 is free", x.markings(0), WIDE);
        x.place(1, 2);
        Check.due("16: 1 comes after 0", x.markings(0), 3);
        x.place(1, 4);
        Check.due("16: 2 comes after 0, too", x.markings(0), 5);
        x.ends(5, 2);
        Check.due("16: 2 needs the source, too", x.markings(0), 3);
        x.ends(0, 0);
        Check.due("16: 0 is free", x.markings(0), WIDE);
    }

    private static void soundOfNoNet() {
        FootprintNet x = Build.net(1, 1);
        for (int net : NO_NETS) {
            Check.due("17: sound(" + net + ")", x.sound(net), BAD);
        }
        x.place(4, 8);
        Check.due("17: sound(0) of a wide net", x.sound(0), WIDE);
        for (int net : NO_NETS) {
            Check.due("17: sound(" + net + ") beside a wide net", x.sound(net), BAD);
        }
    }

    private static void soundOfEachNet() {
        FootprintNet x = Build.net(1, 1);
        Check.due("17: sound(0)", x.sound(0), 1);
        Check.due("17: sound(1)", x.sound(1), 0);
        Build.trace(x, 3);
        x.mine();
        x.reset();
        Check.due("17: sound(0) after reset()", x.sound(0), 0);
        Check.due("17: sound(1) after mine()", x.sound(1), 1);
    }

    private static void theInitialMarkingAlone() {
        both("17: an empty net", new FootprintNet(), 1, 0);
        both("17: nothing can fire", Build.net(1, 1, 1, 1), 1, 0);
        both("17: 0 fires, but not into the sink", Build.net(1, 0), 2, 0);
        both("17: 0 fires into the sink", Build.net(1, 1), 2, 1);
    }

    /** Nothing is enabled in the final marking: only firing none comes to it from there. */
    private static void theFinalMarkingByFiringNone() {
        both("17: one activity", Build.net(64, 64), 2, 1);
        both("17: one of two", Build.net(65, 65), 2, 1);
        both("17: one of seven", Build.net(127, 127), 2, 1);
        both("17: one after the other", Build.net(1, 2, 1, 2), 3, 1);
    }

    /** 0 leads to 2, which ends; 1 leads to 3 and 3 to 4. */
    private static void fromEveryMarking() {
        both("17: both ways end", Build.net(3, 4 | 16, 1, 4, 2, 8, 8, 16), 5, 1);
        both("17: one way leads to nothing", Build.net(3, 4, 1, 4, 2, 8, 8, 16), 6, 0);
        both("17: no way ends", Build.net(3, 0, 1, 4, 2, 8, 8, 16), 5, 0);
    }

    /** 3 and 4 go round; 5 ends. */
    private static void fromEveryMarkingOfALoop() {
        both("17: a loop that can be left", Build.net(3, 4 | 32, 1, 4, 2 | 16, 8, 8, 16 | 32), 5, 1);
        both("17: a loop that can't be left", Build.net(3, 4, 1, 4, 2 | 16, 8, 8, 16), 5, 0);
    }

    /** 2 needs a token that 0 puts and 1 does not. */
    private static void aDeadEnd() {
        both("17: after 1 nothing can fire", Build.net(3, 4, 3, 4, 1, 4), 4, 0);
        both("17: after 1 as after 0", Build.net(3, 4, 3, 4), 3, 1);
    }

    private static void noTokenInTheSinkButInTheFinalOne() {
        both("17: a token beside it, which 1 takes yet", Build.net(1, 1, 1, 2), 3, 0);
        both("17: the token comes when 1 takes the other", Build.net(1, 2, 1, 2), 3, 1);
        both("17: a token beside it for ever", Build.net(1, 2, 1, 2, 1 | 8, 4, 4, 8), 5, 0);
    }

    private static void twoTokensInTheSink() {
        both("17: two ones after the other", Build.net(1, 3, 1, 2), 3, 0);
        both("17: two from two places", Build.net(1, 6, 1, 2, 1, 4), 5, 0);
        both("17: one, when both have come", Build.net(1, 8, 1, 2, 1, 4, 2, 8, 4, 8), 6, 1);
    }

    private static void eachActivityIsEnabled() {
        both("17: 1 waits for itself", Build.net(1, 1, 2, 2), 2, 0);
        both("17: without 1", Build.net(1, 1), 2, 1);
        both("17: 1 is among the last", Build.net(1, 3, 2, 2), 2, 0);
        both("17: 1 is among the first, and waits for 2", Build.net(3, 1, 4, 2, 2, 4), 2, 0);
        both("17: 6 alone is never enabled", Build.net(1, 2, 1, 2, 64, 64), 3, 0);
    }

    private static void enabledInOneMarkingAlone() {
        both("17: each in one marking", Build.net(1, 64, 1, 2, 2, 4, 4, 8, 8, 16, 16, 32, 32, 64), 8, 1);
        both("17: all in the initial one", Build.net(127, 127), 2, 1);
        both("17: the last two in the last but one",
                Build.net(1, 96, 1, 2, 2, 4, 4, 8, 8, 16, 16, 96), 7, 1);
        both("17: 6 needs what 0 puts and what 1 puts, and one of them fires alone",
                Build.net(3, 64, 3, 64, 1, 64, 2, 64), 3, 0);
    }

    private static void eachActivityOfTheFoundNet() {
        FootprintNet x = Build.log(new int[] {3, 1, 1, 3});
        x.mine();
        Check.due("17: 1 is in no place, and always enabled", x.sound(1), 1);
        x.clear();
        Build.trace(x, 3);
        x.mine();
        Check.due("17: without 1", x.sound(1), 1);
        x.clear();
        Build.trace(x);
        x.mine();
        Check.due("17: without any", x.sound(1), 0);
    }

    private static void soundAtSevenTokensAndEight() {
        for (int k = 0; k < 6; k++) {
            both("17: 7 tokens", Build.net(1, 64, turned(SOUND_WITH_SEVEN, k)), 95, 1);
            both("17: 8 tokens", Build.net(1, 64, turned(SOUND_BUT_EIGHT, k)), WIDE, WIDE);
        }
    }

    private static void soundAtTwoHundredMarkingsAndMore() {
        both("17: 200 markings, 7 tokens", Build.net(1, 64, SEVEN_IN_200), 200, 0);
        both("17: 200 markings, 8 tokens", Build.net(1, 64, EIGHT_IN_200), WIDE, WIDE);
        both("17: 201 markings, 7 tokens", Build.net(1, 64, SEVEN_IN_201), WIDE, WIDE);
    }

    private static void wideBeforeUnsound() {
        both("17: the final marking is never come to", Build.net(0, 2), WIDE, WIDE);
        both("17: an activity is never enabled", Build.net(1, 2, 4, 4), WIDE, WIDE);
        both("17: not wide, and not sound either", Build.net(1, 1, 4, 4), 2, 0);
    }

    /** 0 puts a token into each of five places of a ring, 6 takes one from each. */
    private static void soundWithManyMarkings() {
        int[] ring = {1 | 32, 64 | 2, 1 | 2, 64 | 4, 1 | 4, 64 | 8, 1 | 8, 64 | 16, 1 | 16, 64 | 32};
        for (int k = 0; k < 5; k++) {
            both("17: a ring of five tokens", Build.net(1, 64, turned(ring, k)), 128, 1);
        }
        int[] fewer = {1 | 32, 64 | 2, 1 | 2, 64 | 4, 1 | 4, 64 | 8, 1 | 8, 64 | 16, 16, 64 | 32};
        both("17: a ring of four tokens, of which 6 wants five", Build.net(1, 64, fewer), 71, 0);
    }
}
