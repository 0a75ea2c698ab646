/** Both sides of every boundary in making and reading nets: promises 9 to 14. */
public final class NetEdgeTest {
    private static final int BAD = FootprintNet.BAD;
    private static final int MANY = FootprintNet.MANY;
    private static final int DOUBLE = FootprintNet.DOUBLE;

    private static final int[] NO_NETS = {-1, 2, -2, 3, 256, 257, Integer.MIN_VALUE,
        Integer.MIN_VALUE + 1, Integer.MAX_VALUE};
    /** The low seven bits of some of these would make a right set. */
    private static final int[] NO_SETS = {-1, 128, -2, -127, -128, 129, 255, 256, 257, 1 << 16,
        1 << 30, Integer.MIN_VALUE, Integer.MIN_VALUE + 1, Integer.MAX_VALUE};

    private NetEdgeTest() {
    }

    public static void main(String[] args) {
        placeOfTheSmallestAndTheGreatestSets();
        placeOfNoSet();
        placeOfEmptySets();
        placeTheSameTwice();
        placeHalfTheSame();
        placeLooksAtNetZeroAlone();
        placeAtThirteenAndAtFourteen();
        placeIsTestedInOrder();
        placeAfterRefusals();
        endsOfTheSmallestAndTheGreatestSets();
        endsOfNoSet();
        endsReplacesWhatWasSet();
        endsAndPlacesInWhateverOrder();
        endsIsNotForNetOne();
        resetOfAnEmptyAndOfAFullNet();
        resetTakesFirstAndLast();
        resetTakesActivities();
        resetTakesWhatAPlaceDid();
        resetLeavesLogAndNetOne();
        placesFromNoneToFourteen();
        placesOfNoNet();
        readingANetWithoutPlaces();
        readingAFullNet();
        readingTheFoundNet();
        readingAFullFoundNet();
        readingNoNet();
        readingAfterReset();
        Check.end();
    }

    private static FootprintNet fullNet() {
        FootprintNet x = new FootprintNet();
        for (int k = 0; k < 14; k++) {
            Check.due("9: place(" + (k + 1) + ", " + (127 - k) + ")", x.place(k + 1, 127 - k), k);
        }
        return x;
    }

    private static void placeOfTheSmallestAndTheGreatestSets() {
        FootprintNet x = new FootprintNet();
        Check.due("9: place(1, 1)", x.place(1, 1), 0);
        Check.due("9: place(1, 127)", x.place(1, 127), 1);
        Check.due("9: place(127, 1)", x.place(127, 1), 2);
        Check.due("9: place(127, 127)", x.place(127, 127), 3);
        for (int a = 0; a <= 6; a++) {
            Check.due("9: place of " + a + " alone", x.place(1 << a, 64 >> a), 4 + a);
        }
        for (int a = 0; a <= 6; a++) {
            Check.due("9: inputs of " + a + " alone", x.inputs(0, 4 + a), 1 << a);
            Check.due("9: outputs of " + (6 - a) + " alone", x.outputs(0, 4 + a), 64 >> a);
        }
        Check.due("9: inputs(0, 3)", x.inputs(0, 3), 127);
        Check.due("9: outputs(0, 3)", x.outputs(0, 3), 127);
    }

    private static void placeOfNoSet() {
        FootprintNet x = new FootprintNet();
        for (int wrong : NO_SETS) {
            Check.due("9: place(" + wrong + ", 1)", x.place(wrong, 1), BAD);
            Check.due("9: place(1, " + wrong + ")", x.place(1, wrong), BAD);
            Check.due("9: place(" + wrong + ", 127)", x.place(wrong, 127), BAD);
            Check.due("9: place(127, " + wrong + ")", x.place(127, wrong), BAD);
            Check.due("9: both are " + wrong, x.place(wrong, wrong), BAD);
        }
        Check.due("9: places(0) after BAD", x.places(0), 0);
        Check.due("9: markings(0) after BAD", x.markings(0), 1);
        Check.due("9: no activities after BAD", x.same(), true);
    }

    private static void placeOfEmptySets() {
        FootprintNet x = new FootprintNet();
        Check.due("9: place(0, 1)", x.place(0, 1), BAD);
        Check.due("9: place(1, 0)", x.place(1, 0), BAD);
        Check.due("9: place(0, 0)", x.place(0, 0), BAD);
        Check.due("9: place(0, 128)", x.place(0, 128), BAD);
        Check.due("9: place(128, 0)", x.place(128, 0), BAD);
        Check.due("9: places(0)", x.places(0), 0);
        Check.due("9: place(1, 1)", x.place(1, 1), 0);
    }

    private static void placeTheSameTwice() {
        FootprintNet x = new FootprintNet();
        Check.due("9: place(5, 6)", x.place(5, 6), 0);
        Check.due("9: place(5, 6) again", x.place(5, 6), DOUBLE);
        Check.due("9: place(6, 5)", x.place(6, 5), 1);
        Check.due("9: place(7, 7)", x.place(7, 7), 2);
        Check.due("9: the first of three", x.place(5, 6), DOUBLE);
        Check.due("9: the second of three", x.place(6, 5), DOUBLE);
        Check.due("9: the third of three", x.place(7, 7), DOUBLE);
        Check.due("9: places(0)", x.places(0), 3);
        Check.due("9: the number after DOUBLE", x.place(1, 1), 3);
    }

    private static void placeHalfTheSame() {
        FootprintNet x = new FootprintNet();
        Check.due("9: place(5, 6)", x.place(5, 6), 0);
        Check.due("9: the same inputs alone", x.place(5, 7), 1);
        Check.due("9: the same outputs alone", x.place(4, 6), 2);
        Check.due("9: inputs of one, outputs of another", x.place(4, 7), 3);
        Check.due("9: turned", x.place(6, 5), 4);
        Check.due("9: all are there", x.places(0), 5);
    }

    private static void placeLooksAtNetZeroAlone() {
        FootprintNet x = Build.log(new int[] {0, 1});
        Check.due("9: mine()", x.mine(), 1);
        Check.due("9: net 1 has the same", x.place(1, 2), 0);
        Check.due("9: net 0 has the same", x.place(1, 2), DOUBLE);
        x.ends(4, 8);
        Check.due("9: source and sink are no inner places", x.place(8, 4), 1);
        x.reset();
        Check.due("9: net 0 has it no longer", x.place(1, 2), 0);
    }

    private static void placeAtThirteenAndAtFourteen() {
        FootprintNet x = new FootprintNet();
        for (int k = 0; k < 13; k++) {
            Check.due("9: place at " + k, x.place(1 + k, 1), k);
        }
        Check.due("9: place at 13", x.place(64, 64), 13);
        Check.due("9: place at 14", x.place(32, 32), MANY);
        Check.due("9: place at 14 again", x.place(32, 32), MANY);
        Check.due("9: places(0)", x.places(0), 14);
        Check.due("9: inputs(0, 13)", x.inputs(0, 13), 64);
        Check.due("9: outputs(0, 13)", x.outputs(0, 13), 64);
        Check.due("9: inputs(0, 14) are the sink's", x.inputs(0, 14), 0);
    }

    private static void placeIsTestedInOrder() {
        FootprintNet x = fullNet();
        Check.due("9: BAD before MANY, inputs", x.place(0, 1), BAD);
        Check.due("9: BAD before MANY, outputs", x.place(1, 128), BAD);
        Check.due("9: BAD before MANY, both", x.place(-1, -1), BAD);
        Check.due("9: DOUBLE before MANY, the first", x.place(1, 127), DOUBLE);
        Check.due("9: DOUBLE before MANY, the last", x.place(14, 114), DOUBLE);
        Check.due("9: MANY, half the same", x.place(1, 126), MANY);
        Check.due("9: MANY, a new one", x.place(127, 127), MANY);
        Check.due("9: places(0)", x.places(0), 14);
    }

    private static void placeAfterRefusals() {
        FootprintNet x = new FootprintNet();
        Check.due("9: place(1, 2)", x.place(1, 2), 0);
        Check.due("9: BAD", x.place(1, 0), BAD);
        Check.due("9: DOUBLE", x.place(1, 2), DOUBLE);
        Check.due("9: no number is lost", x.place(2, 4), 1);
        FootprintNet y = fullNet();
        Check.due("9: MANY", y.place(100, 100), MANY);
        y.reset();
        Check.due("9: what was refused is not there", y.place(100, 100), 0);
    }

    private static void endsOfTheSmallestAndTheGreatestSets() {
        FootprintNet x = new FootprintNet();
        int[] right = {0, 1, 2, 63, 64, 126, 127};
        for (int first : right) {
            for (int last : right) {
                Check.due("10: ends(" + first + ", " + last + ")", x.ends(first, last), true);
                Check.due("10: the first ones", x.outputs(0, 0), first);
                Check.due("10: the last ones", x.inputs(0, 0), last);
            }
        }
    }

    private static void endsOfNoSet() {
        FootprintNet x = Build.net(5, 96);
        for (int wrong : NO_SETS) {
            Check.due("10: ends(" + wrong + ", 1)", x.ends(wrong, 1), false);
            Check.due("10: the first ones stay", x.outputs(0, 0), 5);
            Check.due("10: the last ones stay, though 1 is a set", x.inputs(0, 0), 96);
            Check.due("10: ends(1, " + wrong + ")", x.ends(1, wrong), false);
            Check.due("10: the first ones stay, though 1 is a set", x.outputs(0, 0), 5);
            Check.due("10: the last ones stay", x.inputs(0, 0), 96);
            Check.due("10: both are " + wrong, x.ends(wrong, wrong), false);
        }
        Check.due("10: the first ones at the end", x.outputs(0, 0), 5);
        Check.due("10: the last ones at the end", x.inputs(0, 0), 96);
    }

    private static void endsReplacesWhatWasSet() {
        FootprintNet x = Build.net(1, 1);
        Build.trace(x, 0);
        Build.trace(x, 1);
        Check.due("10: 0 fits", x.fits(0, 0), true);
        Check.due("10: 1 does not", x.fits(0, 1), false);
        x.ends(2, 2);
        Check.due("10: 0 fits no longer", x.fits(0, 0), false);
        Check.due("10: 1 does now", x.fits(0, 1), true);
        x.ends(0, 0);
        Check.due("10: neither", x.fits(0, 0) || x.fits(0, 1), false);
        Check.due("10: no activities are left", x.same(), true);
        x.ends(1, 2);
        Check.due("10: 0 puts nothing into the sink now", x.fits(0, 0), false);
        x.ends(3, 1);
        Check.due("10: 1 puts nothing into the sink now", x.fits(0, 1), false);
        Check.due("10: 0 does again", x.fits(0, 0), true);
        x.ends(2, 3);
        Check.due("10: 0 takes nothing from the source now", x.fits(0, 0), false);
    }

    private static void endsAndPlacesInWhateverOrder() {
        FootprintNet x = new FootprintNet();
        x.place(1, 2);
        x.ends(1, 2);
        x.place(1, 4);
        x.place(4, 2);
        Check.due("10: markings(0), ends between places", x.markings(0), 4);
        Check.due("10: sound(0)", x.sound(0), 1);
        FootprintNet y = Build.net(1, 2, 1, 2, 1, 4, 4, 2);
        Check.due("10: markings(0), ends before places", y.markings(0), 4);
        Check.due("10: sound(0)", y.sound(0), 1);
    }

    private static void endsIsNotForNetOne() {
        FootprintNet x = Build.log(new int[] {4});
        x.mine();
        x.ends(1, 2);
        Build.foundIs("10: net 1", x, 16, 16);
        Check.due("10: net 0", x.outputs(0, 0), 1);
    }

    private static void resetOfAnEmptyAndOfAFullNet() {
        FootprintNet x = new FootprintNet();
        x.reset();
        Check.due("11: places(0) after reset() of nothing", x.places(0), 0);
        Check.due("11: place(1, 1)", x.place(1, 1), 0);
        FootprintNet full = fullNet();
        full.reset();
        full.reset();
        Check.due("11: places(0) after reset() of 14", full.places(0), 0);
        for (int k = 0; k < 14; k++) {
            Check.due("11: the same places again", full.place(k + 1, 127 - k), k);
        }
        Check.due("11: a 15th again", full.place(99, 99), MANY);
    }

    private static void resetTakesFirstAndLast() {
        FootprintNet x = Build.net(127, 127);
        x.reset();
        Check.due("11: the first ones", x.outputs(0, 0), 0);
        Check.due("11: the last ones", x.inputs(0, 0), 0);
        x.place(1, 2);
        Check.due("11: the first ones with a place", x.outputs(0, 1), 0);
        Check.due("11: the last ones with a place", x.inputs(0, 1), 0);
    }

    private static void resetTakesActivities() {
        FootprintNet x = Build.net(1, 2, 4, 8, 16, 32);
        x.reset();
        Check.due("11: nothing fires", x.markings(0), 1);
        Check.due("11: no activities", x.same(), true);
        x.ends(64, 64);
        Check.due("11: no old place hinders 6", x.markings(0), 2);
        Check.due("11: no old activity hinders soundness", x.sound(0), 1);
        Check.due("11: play(0)", x.play(0L), 0);
        Build.traceIs("11: 6 alone is enabled", x, 0, 6);
        x.reset();
        x.ends(1, 1);
        Check.due("11: 0 fires as in a new net", x.markings(0), 2);
        Check.due("11: play(0)", x.play(0L), 1);
    }

    /** What 0 and 1 took and put before is not taken and put any more. */
    private static void resetTakesWhatAPlaceDid() {
        FootprintNet x = Build.net(1, 2, 1, 2, 4, 2);
        x.reset();
        x.ends(1, 1);
        Check.due("11: 0 puts into no old place", x.sound(0), 1);
        x.reset();
        x.ends(2, 2);
        Check.due("11: 1 takes from no old place", x.sound(0), 1);
        x.place(2, 1);
        Check.due("11: a new place 0", x.sound(0), 0);
        x.reset();
        x.ends(2, 1);
        x.place(2, 1);
        Check.due("11: 0 puts into the sink, 1 does not", x.sound(0), 1);
    }

    private static void resetLeavesLogAndNetOne() {
        FootprintNet x = Build.net(1, 2, 1, 2);
        Build.trace(x, 4, 5);
        x.mine();
        x.reset();
        Build.foundIs("11: net 1", x, 16, 32, 16, 32);
        Build.traceIs("11: the log", x, 0, 4, 5);
        Check.due("11: relation(4, 5)", x.relation(4, 5), 1);
        Check.due("11: fits(1, 0)", x.fits(1, 0), true);
    }

    private static void placesFromNoneToFourteen() {
        FootprintNet x = new FootprintNet();
        for (int k = 0; k < 14; k++) {
            Check.due("12: places(0)", x.places(0), k);
            x.place(k + 1, 1);
        }
        Check.due("12: places(0)", x.places(0), 14);
        x.place(100, 1);
        Check.due("12: places(0) after MANY", x.places(0), 14);
        Check.due("12: places(1)", x.places(1), 0);
        Build.steps(x, Build.allSteps(7));
        x.mine();
        Check.due("12: places(1) of 14", x.places(1), 14);
        x.reset();
        Check.due("12: places(0) after reset()", x.places(0), 0);
        Check.due("12: places(1) after reset()", x.places(1), 14);
    }

    private static void placesOfNoNet() {
        FootprintNet x = fullNet();
        for (int net : NO_NETS) {
            Check.due("12: places(" + net + ")", x.places(net), BAD);
        }
    }

    private static void readingANetWithoutPlaces() {
        FootprintNet x = new FootprintNet();
        x.ends(9, 6);
        Check.due("13: inputs(0, -1)", x.inputs(0, -1), BAD);
        Check.due("13: inputs(0, 0) are the sink's", x.inputs(0, 0), 6);
        Check.due("13: inputs(0, 1)", x.inputs(0, 1), BAD);
        Check.due("14: outputs(0, -1)", x.outputs(0, -1), BAD);
        Check.due("14: outputs(0, 0) are the source's", x.outputs(0, 0), 9);
        Check.due("14: outputs(0, 1)", x.outputs(0, 1), BAD);
        Check.due("13: inputs(1, 0)", x.inputs(1, 0), 0);
        Check.due("13: inputs(1, 1)", x.inputs(1, 1), BAD);
        Check.due("14: outputs(1, 0)", x.outputs(1, 0), 0);
        Check.due("14: outputs(1, 1)", x.outputs(1, 1), BAD);
    }

    private static void readingAFullNet() {
        FootprintNet x = fullNet();
        x.ends(17, 34);
        for (int k = 0; k < 14; k++) {
            Check.due("13: inputs(0, " + k + ")", x.inputs(0, k), k + 1);
            Check.due("14: outputs(0, " + k + ")", x.outputs(0, k), 127 - k);
        }
        Check.due("13: inputs(0, 14)", x.inputs(0, 14), 34);
        Check.due("14: outputs(0, 14)", x.outputs(0, 14), 17);
        int[] wrong = {-1, 15, 16, -14, -15, Integer.MIN_VALUE, Integer.MAX_VALUE};
        for (int k : wrong) {
            Check.due("13: inputs(0, " + k + ")", x.inputs(0, k), BAD);
            Check.due("14: outputs(0, " + k + ")", x.outputs(0, k), BAD);
        }
    }

    private static void readingTheFoundNet() {
        FootprintNet x = fullNet();
        Build.trace(x, 2, 5);
        x.mine();
        Check.due("13: inputs(1, -1)", x.inputs(1, -1), BAD);
        Check.due("13: inputs(1, 0)", x.inputs(1, 0), 4);
        Check.due("13: inputs(1, 1) are the sink's", x.inputs(1, 1), 32);
        Check.due("13: inputs(1, 2), though net 0 has it", x.inputs(1, 2), BAD);
        Check.due("14: outputs(1, -1)", x.outputs(1, -1), BAD);
        Check.due("14: outputs(1, 0)", x.outputs(1, 0), 32);
        Check.due("14: outputs(1, 1) are the source's", x.outputs(1, 1), 4);
        Check.due("14: outputs(1, 2), though net 0 has it", x.outputs(1, 2), BAD);
    }

    private static void readingAFullFoundNet() {
        FootprintNet x = new FootprintNet();
        Build.steps(x, Build.allSteps(7));
        Check.due("13: mine()", x.mine(), 14);
        Check.due("13: inputs(1, 13)", x.inputs(1, 13), 32);
        Check.due("14: outputs(1, 13)", x.outputs(1, 13), 64);
        Check.holds("13: inputs(1, 14) are the sink's", x.inputs(1, 14) > 0);
        Check.due("14: outputs(1, 14) are the source's", x.outputs(1, 14) & 1, 1);
        Check.due("13: inputs(1, 15)", x.inputs(1, 15), BAD);
        Check.due("14: outputs(1, 15)", x.outputs(1, 15), BAD);
        Check.due("13: inputs(0, 13)", x.inputs(0, 13), BAD);
        Check.due("14: outputs(0, 13)", x.outputs(0, 13), BAD);
    }

    private static void readingNoNet() {
        FootprintNet x = fullNet();
        for (int net : NO_NETS) {
            Check.due("13: inputs(" + net + ", 0)", x.inputs(net, 0), BAD);
            Check.due("14: outputs(" + net + ", 0)", x.outputs(net, 0), BAD);
            Check.due("13: inputs(" + net + ", 14)", x.inputs(net, 14), BAD);
            Check.due("14: outputs(" + net + ", 14)", x.outputs(net, 14), BAD);
            Check.due("13: inputs(" + net + ", -1)", x.inputs(net, -1), BAD);
            Check.due("14: outputs(" + net + ", 15)", x.outputs(net, 15), BAD);
        }
    }

    private static void readingAfterReset() {
        FootprintNet x = fullNet();
        x.ends(3, 5);
        x.reset();
        Check.due("13: inputs(0, 0) after reset()", x.inputs(0, 0), 0);
        Check.due("14: outputs(0, 0) after reset()", x.outputs(0, 0), 0);
        Check.due("13: inputs(0, 1) after reset()", x.inputs(0, 1), BAD);
        Check.due("14: outputs(0, 1) after reset()", x.outputs(0, 1), BAD);
        Check.due("13: inputs(0, 14) after reset()", x.inputs(0, 14), BAD);
        Check.due("14: outputs(0, 14) after reset()", x.outputs(0, 14), BAD);
    }
}
