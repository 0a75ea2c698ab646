/** Both sides of every boundary in telling a net's shape and comparing nets: promises 18 and 20. */
public final class ShapeEdgeTest {
    private static final int BAD = FootprintNet.BAD;

    private ShapeEdgeTest() {
    }

    public static void main(String[] args) {
        shapeOfNoNet();
        shapeOfEachNet();
        shapeOfAnEmptyNet();
        oneInInputsAndOutputsOfOnePlace();
        oneForEachActivityAndPlace();
        oneIsForInnerPlaces();
        twoInTwoPlaces();
        twoInOnePlace();
        twoAreDifferent();
        twoWhereOneOfThemIsBothWays();
        twoForEachCoupleAndPlace();
        twoIsForInnerPlaces();
        fourNeedsTwoOutputs();
        fourNeedsAnotherPlace();
        fourForTheSameOutputs();
        fourWithTheSource();
        fourWithoutTheSink();
        fourForEachPlace();
        theSumOfAll();
        sameOfEmptyNets();
        sameButForTheActivities();
        sameButForTheFirst();
        sameButForTheLast();
        sameButForOnePlace();
        sameInWhateverOrder();
        sameOfFullNets();
        sameIsAboutTheNetsNow();
        sameAfterRefusals();
        Check.end();
    }

    private static void shape(String what, int due, FootprintNet x) {
        Check.due(what, x.shape(0), due);
    }

    private static void shapeOfNoNet() {
        FootprintNet x = Build.net(3, 3, 7, 7);
        Check.due("18: shape(0)", x.shape(0), 7);
        Check.due("18: shape(1)", x.shape(1), 0);
        int[] wrong = {-1, 2, -2, 3, 256, 257, Integer.MIN_VALUE, Integer.MAX_VALUE};
        for (int net : wrong) {
            Check.due("18: shape(" + net + ")", x.shape(net), BAD);
        }
    }

    private static void shapeOfEachNet() {
        FootprintNet x = Build.net(1, 1, 2, 2);
        Build.trace(x, 0, 1, 2, 3);
        Build.trace(x, 0, 2, 1, 3);
        Build.trace(x, 0, 4, 3);
        x.mine();
        Check.due("18: shape(0)", x.shape(0), 1);
        Check.due("18: shape(1)", x.shape(1), 4);
        x.reset();
        Check.due("18: shape(0) after reset()", x.shape(0), 0);
        Check.due("18: shape(1) after reset()", x.shape(1), 4);
    }

    private static void shapeOfAnEmptyNet() {
        shape("18: nothing at all", 0, new FootprintNet());
        shape("18: no inner places", 0, Build.net(127, 127));
        shape("18: one inner place", 0, Build.net(1, 2, 1, 2));
    }

    private static void oneInInputsAndOutputsOfOnePlace() {
        shape("18: in both of one place", 1, Build.net(1, 1, 2, 2));
        shape("18: in both, among others", 1, Build.net(1, 1, 2 | 4, 4 | 8));
        shape("18: in the inputs of one, the outputs of another", 0, Build.net(1, 1, 2, 4, 8, 2));
        shape("18: in none of both", 0, Build.net(1, 1, 2 | 4, 8 | 16));
    }

    private static void oneForEachActivityAndPlace() {
        for (int a = 0; a <= 6; a++) {
            shape("18: " + a + " alone", 1, Build.net(0, 0, 1 << a, 1 << a));
            shape("18: all but " + a, 0, Build.net(0, 0, 127 - (1 << a), 1 << a));
        }
        for (int k = 0; k < 14; k++) {
            FootprintNet x = new FootprintNet();
            FootprintNet y = new FootprintNet();
            for (int i = 0; i < 14; i++) {
                x.place(i == k ? 32 : 1 + i, 32);
                y.place(i == k ? 64 : 1 + i, 32);
            }
            shape("18: in both of place " + k + " of 14", 1, x);
            shape("18: in both of none of 14", 0, y);
        }
    }

    private static void oneIsForInnerPlaces() {
        shape("18: first and last", 0, Build.net(1, 1));
        shape("18: first and inputs", 0, Build.net(1, 2, 1, 2));
        shape("18: first and last and all between", 0, Build.net(1, 3, 1, 2));
    }

    private static void twoInTwoPlaces() {
        shape("18: 1 from p to q, 2 from q to p", 2, Build.net(1, 1, 4, 2, 2, 4));
        shape("18: among others", 2, Build.net(1, 1, 4 | 8, 2 | 16, 2 | 32, 4 | 64));
        shape("18: 1 from p to q, 2 from q to another", 0, Build.net(1, 1, 8, 2, 2, 4));
        shape("18: round three places", 0, Build.net(1, 1, 8, 2, 2, 4, 4, 8));
        shape("18: 1 from p to q, and 2 as well", 0, Build.net(1, 1, 8, 2, 8, 4, 2, 16, 4, 16));
    }

    private static void twoInOnePlace() {
        shape("18: both in both of one place", 3, Build.net(1, 1, 6, 6));
        shape("18: one in both of it", 1, Build.net(1, 1, 6, 2));
        shape("18: the other in both of it", 1, Build.net(1, 1, 4, 6));
    }

    private static void twoAreDifferent() {
        shape("18: 1 in both of p alone", 1, Build.net(1, 1, 2, 2, 4, 8));
        shape("18: 1 in both of p and of q", 1, Build.net(1, 1, 2, 2, 2 | 4, 2));
        shape("18: 1 in both of p, 2 in both of q", 1, Build.net(1, 1, 2, 2, 4, 4));
    }

    /** 1 is in both of p; a second activity goes from q to p, or from p to q. */
    private static void twoWhereOneOfThemIsBothWays() {
        shape("18: 1 both ways, 2 from q to p", 7, Build.net(1, 1, 2 | 4, 2, 2, 2 | 4));
        shape("18: 1 both ways, 2 from p to q", 7, Build.net(1, 1, 2, 2 | 4, 2 | 4, 2));
        shape("18: 1 in p alone, 2 from q to p", 3, Build.net(1, 1, 2 | 4, 2, 2, 4));
        shape("18: 1 both ways, 2 in the inputs alone", 1, Build.net(1, 1, 2 | 4, 2, 2, 2));
        shape("18: 1 both ways, 2 in the outputs alone", 5, Build.net(1, 1, 2, 2 | 4, 2, 2));
    }

    private static void twoForEachCoupleAndPlace() {
        for (int a = 0; a <= 6; a++) {
            for (int b = 0; b <= 6; b++) {
                if (a != b) {
                    shape("18: " + a + " and " + b, 2, Build.net(0, 0, 1 << a, 1 << b, 1 << b, 1 << a));
                }
            }
        }
        for (int k = 0; k < 13; k++) {
            FootprintNet x = new FootprintNet();
            FootprintNet y = new FootprintNet();
            for (int i = 0; i < 13; i++) {
                x.place(i == k ? 32 : 1 + i, 64);
                y.place(i == k ? 32 : 1 + i, 64);
            }
            Check.due("18: the 14th leads back to " + k, x.place(64, 32), 13);
            shape("18: it does", 2, x);
            Check.due("18: the 14th leads to 4", y.place(64, 16), 13);
            shape("18: it does not lead back", 0, y);
        }
    }

    private static void twoIsForInnerPlaces() {
        shape("18: from the source, and into the sink", 0, Build.net(3, 3));
        shape("18: 0 from the source to p, 1 from p to the sink", 0, Build.net(1, 2, 1, 2));
        shape("18: 1 from p to the sink, 0 from the source to p and the sink", 0, Build.net(1, 3, 1, 2));
        shape("18: 0 is first and last, 1 too, with a place between", 4, Build.net(3, 3, 1, 2));
    }

    private static void fourNeedsTwoOutputs() {
        shape("18: one output each", 0, Build.net(1, 1, 1, 4, 2, 4));
        shape("18: two outputs here", 4, Build.net(1, 1, 1, 4 | 8, 2, 4));
        shape("18: two outputs there", 4, Build.net(1, 1, 1, 4, 2, 4 | 8));
        shape("18: two outputs each", 4, Build.net(1, 1, 1, 4 | 8, 2, 4 | 16));
        shape("18: seven outputs", 5, Build.net(0, 0, 1, 127, 2, 64));
    }

    private static void fourNeedsAnotherPlace() {
        shape("18: two outputs alone", 0, Build.net(1, 1, 1, 4 | 8));
        shape("18: two outputs each, all different", 0, Build.net(1, 1, 1, 4 | 8, 2, 16 | 32));
        shape("18: shared with the inputs of another", 0, Build.net(1, 1, 1, 4 | 8, 4 | 8, 16));
        shape("18: one of two shared, the lower", 4, Build.net(1, 1, 1, 4 | 8, 2, 4));
        shape("18: one of two shared, the higher", 4, Build.net(1, 1, 1, 4 | 8, 2, 8));
        shape("18: two outputs, and others share theirs", 0, Build.net(1, 1, 1, 4 | 8, 1, 16, 2, 16));
    }

    private static void fourForTheSameOutputs() {
        shape("18: the same two outputs", 4, Build.net(1, 1, 1, 4 | 8, 2, 4 | 8));
        shape("18: the same one output", 0, Build.net(1, 1, 1, 4, 2, 4));
        shape("18: the source has the same two", 4, Build.net(4 | 8, 1, 1, 4 | 8));
        shape("18: the source has the same one", 0, Build.net(4, 1, 1, 4));
    }

    private static void fourWithTheSource() {
        shape("18: the source alone", 0, Build.net(127, 1));
        shape("18: two of the source, one shared", 4, Build.net(3, 8, 8, 2));
        shape("18: two of the source, none shared", 0, Build.net(3, 8, 8, 4));
        shape("18: one of the source, shared with two", 4, Build.net(1, 8, 8, 1 | 2));
        shape("18: one of the source, not shared with two", 0, Build.net(4, 8, 8, 1 | 2));
        shape("18: one of the source, shared with one", 0, Build.net(1, 8, 8, 1));
        shape("18: none of the source", 0, Build.net(0, 8, 8, 1 | 2));
        FootprintNet x = Build.log(new int[] {0, 2}, new int[] {1, 2}, new int[] {2, 0}, new int[] {3, 0});
        x.mine();
        Build.foundIs("18: the found net", x, 15, 5, 2, 4, 8, 1);
        Check.due("18: the found net's source", x.shape(1), 4);
    }

    private static void fourWithoutTheSink() {
        shape("18: the last ones are no outputs", 0, Build.net(1, 6, 1, 2 | 4));
        shape("18: the last ones share nothing", 0, Build.net(2, 6, 1, 4));
        shape("18: all are last", 0, Build.net(1, 127, 1, 2));
    }

    /** All have one output of their own but place k, which shares 6 with the last one. */
    private static void fourForEachPlace() {
        for (int k = 0; k < 13; k++) {
            FootprintNet x = new FootprintNet();
            FootprintNet y = new FootprintNet();
            for (int i = 0; i < 14; i++) {
                x.place(1 + i, i == k ? 32 | 64 : i == 13 ? 64 : 16);
                y.place(1 + i, i == k ? 32 : i == 13 ? 64 : 16);
            }
            shape("18: place " + k + " of 14 shares", 4, x);
            shape("18: place " + k + " of 14 does not share", 0, y);
        }
    }

    private static void theSumOfAll() {
        shape("18: none", 0, Build.net(1, 1, 1, 2));
        shape("18: 1", 1, Build.net(1, 1, 2, 2));
        shape("18: 2", 2, Build.net(1, 1, 4, 2, 2, 4));
        shape("18: 1 and 2", 3, Build.net(1, 1, 6, 6));
        shape("18: 4", 4, Build.net(3, 1, 4, 2));
        shape("18: 1 and 4", 5, Build.net(6, 1, 2, 2));
        shape("18: 2 and 4", 6, Build.net(6, 1, 4, 2, 2, 4));
        shape("18: 1 and 2 and 4", 7, Build.net(2, 1, 6, 6));
    }

    private static void sameOfEmptyNets() {
        FootprintNet x = new FootprintNet();
        Check.due("20: two new nets", x.same(), true);
        x.ends(1, 0);
        Check.due("20: a first one", x.same(), false);
        x.ends(0, 1);
        Check.due("20: a last one", x.same(), false);
        x.ends(0, 0);
        Check.due("20: neither", x.same(), true);
        x.place(1, 1);
        Check.due("20: a place", x.same(), false);
        x.reset();
        Check.due("20: no place", x.same(), true);
        x.begin();
        x.mine();
        Check.due("20: found in an empty trace", x.same(), true);
    }

    /** 1 is an activity of the found net, but in no place. */
    private static void sameButForTheActivities() {
        FootprintNet x = Build.net(8, 8);
        Build.trace(x, 3, 1, 1, 3);
        Check.due("20: mine()", x.mine(), 0);
        Build.foundIs("20: the same first and last", x, 8, 8);
        Check.due("20: an activity more", x.same(), false);
        x.clear();
        Build.trace(x, 3);
        x.mine();
        Check.due("20: the same activities", x.same(), true);
        FootprintNet y = Build.net(1, 2, 1, 2);
        Build.trace(y, 0, 1);
        Build.trace(y, 0, 6, 6, 1);
        Check.due("20: mine() with a place", y.mine(), 1);
        Check.due("20: an activity more beside a place", y.same(), false);
    }

    private static FootprintNet foundAgain() {
        FootprintNet x = Build.net(1, 8, 1, 2, 1, 4, 2, 8, 4, 8);
        x.play(0L);
        x.play(8L);
        Check.due("20: mine()", x.mine(), 4);
        Check.due("20: found again", x.same(), true);
        return x;
    }

    private static void sameButForTheFirst() {
        FootprintNet x = foundAgain();
        int[] others = {0, 2, 3, 9, 127};
        for (int first : others) {
            x.ends(first, 8);
            Check.due("20: first " + first, x.same(), false);
        }
        x.ends(1, 8);
        Check.due("20: first 1", x.same(), true);
    }

    private static void sameButForTheLast() {
        FootprintNet x = foundAgain();
        int[] others = {0, 4, 9, 12, 127};
        for (int last : others) {
            x.ends(1, last);
            Check.due("20: last " + last, x.same(), false);
        }
        x.ends(1, 8);
        Check.due("20: last 8", x.same(), true);
    }

    private static void sameButForOnePlace() {
        FootprintNet x = foundAgain();
        x.place(1, 8);
        Check.due("20: a place more", x.same(), false);
        x.reset();
        x.ends(1, 8);
        x.place(1, 2);
        x.place(1, 4);
        x.place(2, 8);
        Check.due("20: a place fewer", x.same(), false);
        x.place(4, 9);
        Check.due("20: other outputs in the last", x.same(), false);
        FootprintNet y = foundAgain();
        y.reset();
        y.ends(1, 8);
        y.place(3, 2);
        y.place(1, 4);
        y.place(2, 8);
        y.place(4, 8);
        Check.due("20: other inputs in the first", y.same(), false);
        FootprintNet z = foundAgain();
        z.reset();
        z.ends(1, 8);
        z.place(2, 1);
        z.place(4, 1);
        z.place(8, 2);
        z.place(8, 4);
        Check.due("20: inputs and outputs exchanged", z.same(), false);
    }

    private static void sameInWhateverOrder() {
        int[][] pairs = {{1, 2}, {1, 4}, {2, 8}, {4, 8}};
        for (int i = 0; i < 4; i++) {
            for (int j = 0; j < 4; j++) {
                FootprintNet x = foundAgain();
                x.reset();
                for (int k = 0; k < 4; k++) {
                    int at = k == i ? j : k == j ? i : k;
                    x.place(pairs[at][0], pairs[at][1]);
                }
                Check.due("20: without first and last", x.same(), false);
                x.ends(1, 8);
                Check.due("20: places " + i + " and " + j + " exchanged", x.same(), true);
            }
        }
    }

    private static void sameOfFullNets() {
        FootprintNet x = new FootprintNet();
        Build.steps(x, Build.allSteps(7));
        Check.due("20: mine()", x.mine(), 14);
        x.ends(x.outputs(1, 14), x.inputs(1, 14));
        for (int k = 13; k > 0; k--) {
            x.place(x.inputs(1, k), x.outputs(1, k));
        }
        Check.due("20: 13 of 14", x.same(), false);
        Check.due("20: another 14th", x.place(127, 127), 13);
        Check.due("20: 14, but one is another", x.same(), false);
        x.reset();
        x.ends(x.outputs(1, 14), x.inputs(1, 14));
        for (int k = 13; k >= 0; k--) {
            x.place(x.inputs(1, k), x.outputs(1, k));
        }
        Check.due("20: all 14, backwards", x.same(), true);
    }

    private static void sameIsAboutTheNetsNow() {
        FootprintNet x = foundAgain();
        x.clear();
        Check.due("20: the log is empty, the net is not", x.same(), true);
        x.mine();
        Check.due("20: mined from an empty log", x.same(), false);
        x.reset();
        Check.due("20: both without anything", x.same(), true);
        Check.due("20: same() changes nothing", x.same(), true);
    }

    private static void sameAfterRefusals() {
        FootprintNet x = foundAgain();
        x.place(1, 2);
        x.place(0, 2);
        x.place(1, 128);
        x.ends(128, 8);
        x.ends(1, -1);
        Check.due("20: after what was refused", x.same(), true);
        x.clear();
        Build.steps(x, Build.allSteps(6));
        Check.due("20: mine() of 15", x.mine(), FootprintNet.MANY);
        Check.due("20: after mine() that was refused", x.same(), true);
    }
}
