/** Both sides of every boundary in firing, replaying and making traces: promises 15 and 19. */
public final class ReplayEdgeTest {
    private static final int BAD = FootprintNet.BAD;
    private static final int MANY = FootprintNet.MANY;

    private ReplayEdgeTest() {
    }

    public static void main(String[] args) {
        theEmptyTrace();
        tracesThatAreNotThere();
        netsThatAreNotThere();
        theFirstAndTheTwentiethTrace();
        activitiesOfTheNetAlone();
        enabledNeedsEveryPlace();
        firingTakesOneToken();
        firingTakesBeforeItPuts();
        theSourceHasOneToken();
        sourceAndInnerPlaceBoth();
        theSinkTakesOneToken();
        aTokenIsLeftBehind();
        inNoInputsAndNoOutputs();
        fifteenActivitiesFit();
        sevenTokensAndMore();
        thirteenInnerPlacesAndFourteen();
        fitsIsAboutTheNetNow();
        playTakesTheRemainder();
        playTakesThreeBitsForEach();
        playTakesBitsWhereNothingIsToBeChosen();
        playEndsAtFifteen();
        playEndsAtTheFinalMarking();
        playGoesOnPastATokenInTheSink();
        playWithNothingEnabled();
        playAtNineteenAndAtTwenty();
        playIsTestedForManyFirst();
        playMakesATraceLikeAnyOther();
        playIsOfNetZero();
        playOnAWideNet();
        playWithFifteenTokens();
        Check.end();
    }

    private static void fits(String what, FootprintNet x, boolean due, int... activities) {
        x.clear();
        Build.trace(x, activities);
        Check.due(what, x.fits(0, 0), due);
    }

    /** Told as text, so that long traces can be counted. */
    private static void fits(String what, FootprintNet x, boolean due, String activities) {
        fits(what, x, due, activities.chars().map(c -> c - '0').toArray());
    }

    private static void theEmptyTrace() {
        fits("15: an empty trace in a net of one activity", Build.net(1, 1), false);
        fits("15: its one activity", Build.net(1, 1), true, 0);
        fits("15: an empty trace in an empty net", new FootprintNet(), false);
        fits("15: an empty trace where all begin and end", Build.net(127, 127), false);
    }

    private static void tracesThatAreNotThere() {
        FootprintNet x = Build.net(1, 1);
        Check.due("15: fits(0, 0) of an empty log", x.fits(0, 0), false);
        Build.trace(x, 0);
        Check.due("15: fits(0, 0)", x.fits(0, 0), true);
        int[] wrong = {-1, 1, 2, 19, 20, 21, Integer.MIN_VALUE, Integer.MAX_VALUE};
        for (int t : wrong) {
            Check.due("15: fits(0, " + t + ")", x.fits(0, t), false);
        }
        x.clear();
        Check.due("15: fits(0, 0) after clear()", x.fits(0, 0), false);
    }

    private static void netsThatAreNotThere() {
        FootprintNet x = Build.net(1, 1);
        Build.trace(x, 0);
        x.mine();
        Check.due("15: fits(0, 0)", x.fits(0, 0), true);
        Check.due("15: fits(1, 0)", x.fits(1, 0), true);
        int[] wrong = {-1, 2, -2, 3, 256, 257, Integer.MIN_VALUE, Integer.MAX_VALUE};
        for (int net : wrong) {
            Check.due("15: fits(" + net + ", 0)", x.fits(net, 0), false);
            Check.due("15: fits(" + net + ", 1)", x.fits(net, 1), false);
        }
    }

    private static void theFirstAndTheTwentiethTrace() {
        FootprintNet x = Build.net(1, 1);
        Build.trace(x, 0);
        for (int t = 1; t < 19; t++) {
            Build.trace(x, 1);
        }
        Build.trace(x, 0);
        Check.due("15: fits(0, 0)", x.fits(0, 0), true);
        Check.due("15: fits(0, 1)", x.fits(0, 1), false);
        Check.due("15: fits(0, 18)", x.fits(0, 18), false);
        Check.due("15: fits(0, 19)", x.fits(0, 19), true);
        Check.due("15: fits(0, 20)", x.fits(0, 20), false);
    }

    private static void activitiesOfTheNetAlone() {
        FootprintNet x = Build.net(1, 1);
        fits("15: 0 is one", x, true, 0);
        for (int a = 1; a <= 6; a++) {
            fits("15: " + a + " is none, before", x, false, a, 0);
            fits("15: " + a + " is none, after", x, false, 0, a);
        }
        fits("15: 1 is one by the inputs", Build.net(1, 1, 2, 4), true, 1, 2, 0);
        fits("15: 1 is one by the first ones", Build.net(3, 1), false, 1);
        fits("15: 1 is one by the last ones", Build.net(1, 2), true, 0, 1);
    }

    private static void enabledNeedsEveryPlace() {
        FootprintNet x = Build.net(1, 8, 1, 2, 1, 4, 2, 8, 4, 8);
        fits("15: 3 has both", x, true, 0, 1, 2, 3);
        fits("15: 3 has both, the other way", x, true, 0, 2, 1, 3);
        fits("15: 3 has one alone", x, false, 0, 1, 3);
        fits("15: 3 has the other alone", x, false, 0, 2, 3);
        fits("15: 3 has neither", x, false, 0, 3);
        fits("15: 1 comes too soon", x, false, 1, 0, 2, 3);
        fits("15: 2 comes too soon, though it could later", x, false, 2, 0, 1, 3);
    }

    /** 0 and 1 put tokens into one place, from which 2 and 3 take; 2 puts one into the sink. */
    private static void firingTakesOneToken() {
        FootprintNet x = Build.net(1, 4, 1, 2, 3, 4 | 8);
        fits("15: two put, two taken", x, true, 0, 1, 2, 3);
        fits("15: two put, two taken, turned", x, true, 0, 1, 3, 2);
        fits("15: one put, one taken, twice", x, true, 0, 3, 1, 2);
        fits("15: two put, one taken", x, false, 0, 1, 2);
        fits("15: two put, three taken", x, false, 0, 1, 3, 2, 3);
        fits("15: none put yet", x, false, 3, 0, 1, 2);
        fits("15: two put, two into the sink", x, false, 0, 1, 2, 2);
    }

    private static void firingTakesBeforeItPuts() {
        FootprintNet x = Build.net(1, 4, 3, 6);
        fits("15: 1 takes a token and puts it back", x, true, 0, 1, 2);
        fits("15: again and again", x, true, 0, 1, 1, 1, 2);
        fits("15: without 1", x, true, 0, 2);
        fits("15: 1 has no token to take, before", x, false, 1, 0, 2);
        fits("15: 1 has no token to take, after", x, false, 0, 2, 1);
        FootprintNet y = Build.net(1, 1, 2, 2);
        fits("15: 1 waits for itself", y, false, 1, 0);
        fits("15: without 1", y, true, 0);
    }

    private static void theSourceHasOneToken() {
        FootprintNet x = Build.net(3, 4, 3, 4);
        fits("15: one of the first", x, true, 0, 2);
        fits("15: the other of the first", x, true, 1, 2);
        fits("15: both", x, false, 0, 1, 2);
        fits("15: one twice", x, false, 0, 0, 2);
        fits("15: neither", x, false, 2);
        FootprintNet y = Build.net(0, 1);
        fits("15: none takes from the source", y, false, 0);
        FootprintNet z = Build.net(1, 2);
        fits("15: the token is in the source still", z, false, 1);
        fits("15: it is taken later", z, true, 1, 0);
        fits("15: it is taken, nothing is in the sink", z, false, 0);
    }

    private static void sourceAndInnerPlaceBoth() {
        FootprintNet x = Build.net(1, 1, 2, 1);
        fits("15: 0 has the source alone", x, false, 0);
        fits("15: 0 has the inner place, too", x, true, 1, 0);
        fits("15: two tokens in the inner place", x, false, 1, 1, 0);
    }

    private static void theSinkTakesOneToken() {
        FootprintNet x = Build.net(1, 3);
        fits("15: one in the sink", x, true, 0);
        fits("15: two in the sink", x, false, 0, 1);
        fits("15: one, but the source has one", x, false, 1);
        fits("15: fifteen in the sink", x, false, "011111111111111");
        fits("15: fifteen in the sink, and the source has one", x, false, "111111111111111");
    }

    private static void aTokenIsLeftBehind() {
        FootprintNet x = Build.net(1, 1, 1, 2);
        fits("15: a token is left", x, false, 0);
        fits("15: none is left", x, true, 0, 1);
        FootprintNet full = Build.net(1, 2, 1, 2, 5, 2, 17, 2, 33, 2, 65, 2, 21, 2, 37, 2, 69, 2,
                49, 2, 81, 2, 97, 2, 53, 2, 85, 2, 9, 2);
        fits("15: none is left in 14 inner places", full, true, 0, 1);
        fits("15: a token is left in the 14th", full, false, 0, 3, 1);
        fits("15: the 14th alone has its token", full, false, 3, 1);
    }

    /** 2 is in the found net, but in no place. */
    private static void inNoInputsAndNoOutputs() {
        FootprintNet x = Build.log(new int[] {0, 2, 2, 1});
        Check.due("15: mine()", x.mine(), 0);
        int[][] right = {{0, 1}, {2, 0, 1}, {0, 2, 1}, {0, 1, 2}, {2, 2, 0, 2, 2, 1, 2, 2},
            {0, 2, 2, 2, 2, 2, 2, 2, 2, 2, 2, 2, 2, 2, 1}};
        for (int[] activities : right) {
            x.clear();
            Build.trace(x, activities);
            Check.due("15: 2 is always enabled and changes nothing", x.fits(1, 0), true);
        }
        int[][] wrong = {{2}, {2, 2}, {0, 2}, {0, 2, 1, 1}, {0, 2, 0, 1}, {3, 0, 1}, {0, 1, 6}};
        for (int[] activities : wrong) {
            x.clear();
            Build.trace(x, activities);
            Check.due("15: the others are as without it", x.fits(1, 0), false);
        }
    }

    private static void fifteenActivitiesFit() {
        FootprintNet x = Build.net(1, 2, 1 | 4, 4 | 2);
        fits("15: fourteen", x, true, "02222222222221");
        fits("15: fifteen", x, true, "022222222222221");
        fits("15: fifteen, the last one does not end", x, false, "022222222222222");
        fits("15: fifteen, the first one does not begin", x, false, "222222222222221");
    }

    private static void sevenTokensAndMore() {
        FootprintNet x = Build.net(1, 1, 2, 4);
        Check.due("16: the net is wide", x.markings(0), FootprintNet.WIDE);
        fits("15: seven come and go", x, true, "111111122222220");
        fits("15: eight come, seven go", x, false, "111111112222222");
        fits("15: eight are left", x, false, "111111110");
        fits("15: fourteen are left", x, false, "111111111111110");
        fits("15: fifteen come", x, false, "111111111111111");
        fits("15: none comes, one goes", x, false, "20");
    }

    /** The k-th inner place is what 1 has to wait for; the others have their token when it begins. */
    private static void thirteenInnerPlacesAndFourteen() {
        FootprintNet x = Build.net(1, 2, 1, 2, 5, 2, 9, 2, 17, 2, 33, 2, 65, 2, 13, 2, 21, 2, 37, 2,
                69, 2, 25, 2, 41, 2, 73, 2);
        fits("15: 13 inner places have a token each", x, true, 0, 1);
        Check.due("9: the 14th", x.place(4, 2), 13);
        fits("15: the 14th has none", x, false, 0, 1);
        Check.due("9: a 15th is refused", x.place(8, 2), MANY);
        fits("15: the 14th has one, others have two", x, false, 0, 2, 1);
    }

    private static void fitsIsAboutTheNetNow() {
        FootprintNet x = Build.net(1, 1);
        Build.trace(x, 0);
        Check.due("15: fits(0, 0)", x.fits(0, 0), true);
        x.place(1, 2);
        Check.due("15: a place more", x.fits(0, 0), false);
        x.event(1);
        Check.due("15: an event more", x.fits(0, 0), true);
        Check.due("15: net 1 is not mined yet", x.fits(1, 0), false);
        x.mine();
        Check.due("15: net 1 is mined", x.fits(1, 0), true);
        x.reset();
        Check.due("15: net 0 is reset", x.fits(0, 0), false);
        Check.due("15: net 1 is not", x.fits(1, 0), true);
    }

    /** All of a set begin and end: the first three bits choose one of m. */
    private static void playTakesTheRemainder() {
        for (int set = 1; set <= 127; set++) {
            FootprintNet x = Build.net(set, set);
            int m = Integer.bitCount(set);
            for (int p = 0; p <= 7; p++) {
                Check.due("19: play(" + p + ") on " + set, x.play(p), p);
                Build.traceIs("19: " + p + " mod " + m, x, p, memberOf(set, p % m));
            }
        }
    }

    private static int memberOf(int set, int place) {
        int left = place;
        for (int a = 0; a <= 6; a++) {
            if ((set >> a & 1) == 1 && left-- == 0) {
                return a;
            }
        }
        return -1;
    }

    /** After 0 comes 2 again and again, as long as the three bits are odd, and then 1. */
    private static void playTakesThreeBitsForEach() {
        for (int i = 1; i <= 14; i++) {
            FootprintNet x = Build.net(1, 2, 1 | 4, 4 | 2);
            long ones = 0L;
            long sevens = 0L;
            for (int k = 1; k < i; k++) {
                ones |= 1L << 3 * k;
                sevens |= 7L << 3 * k;
            }
            long high = -1L << 3 * (i + 1);
            Check.due("19: play", x.play(ones), 0);
            Check.due("19: play, sevens are odd", x.play(sevens), 1);
            Check.due("19: play, higher bits are not looked at", x.play(ones | high), 2);
            Check.due("19: play, six is even", x.play(sevens | 6L << 3 * i), 3);
            Check.due("19: play, two is even", x.play(ones | 2L << 3 * i | high), 4);
            for (int t = 0; t < 5; t++) {
                Check.due("19: length(" + t + ")", x.length(t), i + 1);
                Check.due("19: at(" + t + ", i)", x.at(t, i), 1);
                Check.due("19: at(" + t + ", i - 1)", x.at(t, i - 1), i == 1 ? 0 : 2);
            }
        }
    }

    private static void playTakesBitsWhereNothingIsToBeChosen() {
        FootprintNet x = Build.net(1, 12, 1, 2, 2, 12);
        Check.due("19: play(0)", x.play(0L), 0);
        Check.due("19: play(1)", x.play(1L), 1);
        Check.due("19: play(1 << 3)", x.play(1L << 3), 2);
        Check.due("19: play(1 << 6)", x.play(1L << 6), 3);
        Check.due("19: play(1 << 9)", x.play(1L << 9), 4);
        Check.due("19: play(-1)", x.play(-1L), 5);
        Check.due("19: play(the least)", x.play(Long.MIN_VALUE), 6);
        Check.due("19: play(the greatest)", x.play(Long.MAX_VALUE), 7);
        int[] due = {2, 2, 2, 3, 2, 3, 2, 3};
        for (int t = 0; t < due.length; t++) {
            Build.traceIs("19: the third choice", x, t, 0, 1, due[t]);
        }
    }

    private static void playEndsAtFifteen() {
        FootprintNet x = Build.net(1, 2, 1 | 4, 4 | 2);
        long ones = 0L;
        for (int k = 1; k <= 13; k++) {
            ones |= 1L << 3 * k;
        }
        Check.due("19: the 15th makes the final marking", x.play(ones), 0);
        Check.due("19: length(0)", x.length(0), 15);
        Check.due("19: the 16th would", x.play(ones | 1L << 42), BAD);
        Check.due("19: the 17th would", x.play(ones | 1L << 42 | 1L << 45), BAD);
        Check.due("19: none ever would", x.play(-1L), BAD);
        Check.due("19: length(1)", x.length(1), BAD);
    }

    private static void playEndsAtTheFinalMarking() {
        FootprintNet x = Build.net(1, 1, 2, 4);
        Check.due("19: 0 makes the final marking", x.play(0L), 0);
        Build.traceIs("19: 1 is enabled then, and does not fire", x, 0, 0);
        Check.due("19: a token of 1 is left when 0 fires", x.play(1L | 1L << 6), 1);
        Build.traceIs("19: 2 has to take it yet", x, 1, 1, 0, 2);
        Check.due("19: 2 never takes it", x.play(1L), BAD);
    }

    private static void playGoesOnPastATokenInTheSink() {
        FootprintNet x = Build.net(1, 1, 1, 2);
        Check.due("19: the sink has a token, another place too", x.play(0L), 0);
        Build.traceIs("19: it goes on", x, 0, 0, 1);
        FootprintNet y = Build.net(1, 3, 1, 2);
        Check.due("19: two tokens in the sink", y.play(0L), BAD);
        FootprintNet z = Build.net(1, 2);
        Check.due("19: a token in the sink and one in the source", z.play(1L), 0);
        Build.traceIs("19: it goes on", z, 0, 1, 0);
    }

    private static void playWithNothingEnabled() {
        Check.due("19: an empty net", new FootprintNet().play(0L), BAD);
        Check.due("19: no first ones", Build.net(0, 2, 2, 2).play(0L), BAD);
        Check.due("19: at once", Build.net(1, 2, 1, 2, 2, 1).play(0L), BAD);
        Check.due("19: after one", Build.net(1, 2, 1, 2, 4, 2, 2, 4).play(0L), BAD);
        FootprintNet x = Build.net(3, 5, 2, 4, 8, 4, 4, 8);
        Check.due("19: one way comes to nothing", x.play(1L), BAD);
        Check.due("19: the other does not", x.play(0L), 0);
        Build.traceIs("19: the other", x, 0, 0);
    }

    private static void playAtNineteenAndAtTwenty() {
        FootprintNet x = Build.net(2, 2);
        for (int t = 0; t < 19; t++) {
            x.begin();
        }
        Check.due("19: play at 19", x.play(0L), 19);
        Build.traceIs("19: the 20th", x, 19, 1);
        Check.due("19: play at 20", x.play(0L), MANY);
        Check.due("19: play at 20 again", x.play(5L), MANY);
        Check.due("19: length(20)", x.length(20), BAD);
        Build.traceIs("19: the 20th is as before", x, 19, 1);
        x.clear();
        Check.due("19: play at none", x.play(0L), 0);
    }

    private static void playIsTestedForManyFirst() {
        FootprintNet x = new FootprintNet();
        for (int t = 0; t < 19; t++) {
            x.begin();
        }
        Check.due("19: an empty net at 19", x.play(0L), BAD);
        x.begin();
        Check.due("19: an empty net at 20", x.play(0L), MANY);
        x.ends(1, 1);
        Check.due("19: a sound net at 20", x.play(0L), MANY);
    }

    private static void playMakesATraceLikeAnyOther() {
        FootprintNet x = Build.net(1, 4, 1, 2, 2, 4);
        Build.trace(x, 5);
        Check.due("19: play(0)", x.play(0L), 1);
        Build.traceIs("19: the trace before", x, 0, 5);
        Build.traceIs("19: the new one", x, 1, 0, 1, 2);
        Check.due("19: relation(0, 1)", x.relation(0, 1), 1);
        Check.due("19: relation(2, 1)", x.relation(2, 1), 2);
        Check.due("19: relation(5, 0)", x.relation(5, 0), 0);
        Check.due("19: fits(0, 1)", x.fits(0, 1), true);
        Check.due("19: event(6)", x.event(6), true);
        Check.due("19: relation(2, 6)", x.relation(2, 6), 1);
        Check.due("19: begin()", x.begin(), 2);
        Check.due("19: mine()", x.mine(), 3);
        Build.foundIs("19: as if told by events", x, 33, 96, 1, 2, 2, 4, 4, 64);
    }

    private static void playIsOfNetZero() {
        FootprintNet x = Build.log(new int[] {3});
        x.mine();
        Check.due("19: net 1 could", x.play(0L), BAD);
        x.ends(16, 16);
        Check.due("19: net 0 can", x.play(0L), 1);
        Build.traceIs("19: by net 0", x, 1, 4);
    }

    private static void playOnAWideNet() {
        FootprintNet x = Build.net(1, 1, 2, 4);
        Check.due("19: the net is wide", x.markings(0), FootprintNet.WIDE);
        Check.due("19: play(0)", x.play(0L), 0);
        Check.due("19: play(0) leaves it wide", x.sound(0), FootprintNet.WIDE);
    }

    private static void playWithFifteenTokens() {
        FootprintNet x = Build.net(1, 1, 2, 4);
        long ones = 0L;
        for (int k = 0; k < 15; k++) {
            ones |= 1L << 3 * k;
        }
        Check.due("19: fifteen in an inner place", x.play(ones), BAD);
        FootprintNet y = Build.net(1, 2);
        Check.due("19: fifteen in the sink", y.play(ones), BAD);
        FootprintNet z = Build.net(1, 2, 2, 4, 2, 8, 2, 16, 2, 32, 2, 64, 34, 4, 34, 8, 34, 16,
                34, 64, 2, 12, 2, 20, 2, 36, 2, 68, 2, 24);
        Check.due("19: fifteen in each of fourteen inner places and the sink", z.play(ones), BAD);
        Check.due("19: nothing is left of it", z.length(0), BAD);
        Check.due("19: the same again", z.play(ones), BAD);
    }
}
