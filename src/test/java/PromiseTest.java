/** Each promise on its own: ordinary inputs, the edges that the document names, wrong inputs. */
public final class PromiseTest {
    private static final int BAD = FootprintNet.BAD;
    private static final int MANY = FootprintNet.MANY;
    private static final int WIDE = FootprintNet.WIDE;
    private static final int DOUBLE = FootprintNet.DOUBLE;
    private static final int[] WRONG_NETS = {-1, 2, 3, Integer.MIN_VALUE, Integer.MAX_VALUE};
    private static final int[] WRONG_ACTIVITIES = {-1, 7, 8, 32, 39, Integer.MIN_VALUE, Integer.MAX_VALUE};

    private PromiseTest() {
    }

    public static void main(String[] args) {
        promise1NewObject();
        promise2Begin();
        promise3Event();
        promise4Clear();
        promise5Length();
        promise6At();
        promise7Relation();
        promise8Mine();
        promise8MineMany();
        promise9Place();
        promise10Ends();
        promise11Reset();
        promise12Places();
        promise13Inputs();
        promise14Outputs();
        promise15Fits();
        promise15FitsFoundNet();
        promise16Markings();
        promise16MarkingsTokens();
        promise17Sound();
        promise17SoundConditions();
        promise18ShapeLoops();
        promise18ShapeChoices();
        promise19Play();
        promise19PlayEdges();
        promise20Same();
        Check.end();
    }

    private static void promise1NewObject() {
        FootprintNet x = new FootprintNet();
        Check.due("1: length(0)", x.length(0), BAD);
        Check.due("1: at(0, 0)", x.at(0, 0), BAD);
        Check.due("1: event(0)", x.event(0), false);
        for (int a = 0; a <= 6; a++) {
            for (int b = 0; b <= 6; b++) {
                Check.due("1: relation", x.relation(a, b), 0);
            }
        }
        for (int net = 0; net <= 1; net++) {
            Check.due("1: places", x.places(net), 0);
            Check.due("1: inputs", x.inputs(net, 0), 0);
            Check.due("1: outputs", x.outputs(net, 0), 0);
            Check.due("1: markings", x.markings(net), 1);
            Check.due("1: sound", x.sound(net), 0);
            Check.due("1: shape", x.shape(net), 0);
            Check.due("1: fits", x.fits(net, 0), false);
        }
        Check.due("1: play(0)", x.play(0L), BAD);
        Check.due("1: same()", x.same(), true);
        Check.due("1: begin()", new FootprintNet().begin(), 0);
        Build.trace(x, 1, 2);
        Check.due("1: another object's log", new FootprintNet().length(0), BAD);
    }

    private static void promise2Begin() {
        FootprintNet x = new FootprintNet();
        for (int t = 0; t < 20; t++) {
            Check.due("2: begin()", x.begin(), t);
            Check.due("2: length of the new trace", x.length(t), 0);
            x.event(t % 7);
        }
        Check.due("2: begin() at 20", x.begin(), MANY);
        Check.due("2: begin() at 20 again", x.begin(), MANY);
        Check.due("2: no 21st trace", x.length(20), BAD);
        Check.holds("2: the latest is still the 20th", x.event(3));
        Build.traceIs("2: unchanged", x, 19, 5, 3);
        Build.traceIs("2: unchanged", x, 0, 0);
    }

    private static void promise3Event() {
        FootprintNet x = new FootprintNet();
        for (int a = 0; a <= 6; a++) {
            Check.due("3: event without a trace", x.event(a), false);
        }
        x.begin();
        for (int a : WRONG_ACTIVITIES) {
            Check.due("3: event(" + a + ")", x.event(a), false);
        }
        Check.due("3: wrong ones change nothing", x.length(0), 0);
        for (int i = 0; i < 15; i++) {
            Check.due("3: event", x.event(i % 7), true);
        }
        Check.due("3: 16th event", x.event(2), false);
        Build.traceIs("3", x, 0, 0, 1, 2, 3, 4, 5, 6, 0, 1, 2, 3, 4, 5, 6, 0);
        Check.due("3: the refused one is not followed", x.relation(0, 2), 0);
        x.begin();
        Check.due("3: in the latest trace", x.event(6), true);
        Build.traceIs("3", x, 1, 6);
        Check.due("3: length(0)", x.length(0), 15);
        Check.due("3: no step from trace to trace", x.relation(0, 6), 2);
    }

    private static void promise4Clear() {
        FootprintNet x = Build.net(1, 2, 1, 2);
        Build.trace(x, 0, 1);
        Build.trace(x, 2, 3, 3);
        x.mine();
        x.clear();
        Check.due("4: length(0)", x.length(0), BAD);
        Check.due("4: at(0, 0)", x.at(0, 0), BAD);
        Check.due("4: event(1)", x.event(1), false);
        Check.due("4: relation(0, 1)", x.relation(0, 1), 0);
        Check.due("4: relation(3, 3)", x.relation(3, 3), 0);
        Check.due("4: net 0 stays", x.places(0), 1);
        Build.foundIs("4: net 1 stays", x, 5, 10, 1, 2);
        Check.due("4: begin()", x.begin(), 0);
        Check.due("4: new traces are empty", x.length(0), 0);
        Check.due("4: at(0, 0) in the new trace", x.at(0, 0), BAD);
        Check.due("4: mine()", x.mine(), 0);
        Build.foundIs("4: nothing is left of the old log", x, 0, 0);
        FootprintNet y = new FootprintNet();
        for (int t = 0; t < 20; t++) {
            y.begin();
        }
        y.clear();
        Check.due("4: begin() after 20", y.begin(), 0);
    }

    private static void promise5Length() {
        FootprintNet x = new FootprintNet();
        Build.trace(x, 1, 2, 3);
        Build.trace(x);
        Build.trace(x, 4, 4);
        Check.due("5: length(0)", x.length(0), 3);
        Check.due("5: length(1)", x.length(1), 0);
        Check.due("5: length(2)", x.length(2), 2);
        int[] wrong = {3, 19, 20, 21, -1, Integer.MIN_VALUE, Integer.MAX_VALUE};
        for (int t : wrong) {
            Check.due("5: length(" + t + ")", x.length(t), BAD);
        }
    }

    private static void promise6At() {
        FootprintNet x = new FootprintNet();
        Build.trace(x, 6, 0, 5);
        Build.trace(x);
        Build.trace(x, 4);
        Build.traceIs("6", x, 0, 6, 0, 5);
        Build.traceIs("6", x, 2, 4);
        int[][] wrong = {{0, 3}, {0, -1}, {1, 0}, {1, -1}, {2, 1}, {3, 0}, {-1, 0}, {20, 0}, {-1, 15},
            {0, 15}, {0, 30}, {2, -30}, {Integer.MAX_VALUE, 0}, {0, Integer.MAX_VALUE},
            {Integer.MIN_VALUE, Integer.MIN_VALUE}};
        for (int[] w : wrong) {
            Check.due("6: at(" + w[0] + ", " + w[1] + ")", x.at(w[0], w[1]), BAD);
        }
    }

    private static void promise7Relation() {
        FootprintNet x = new FootprintNet();
        Build.trace(x, 0, 1, 2, 1, 3, 3, 4);
        Build.trace(x, 5);
        Build.trace(x, 4, 0);
        int[][] due = {
            {0, 1, 0, 0, 2, 0, 0},
            {2, 0, 3, 1, 0, 0, 0},
            {0, 3, 0, 0, 0, 0, 0},
            {0, 2, 0, 3, 1, 0, 0},
            {1, 0, 0, 2, 0, 0, 0},
            {0, 0, 0, 0, 0, 0, 0},
            {0, 0, 0, 0, 0, 0, 0}};
        for (int a = 0; a <= 6; a++) {
            for (int b = 0; b <= 6; b++) {
                Check.due("7: relation(" + a + ", " + b + ")", x.relation(a, b), due[a][b]);
            }
        }
        for (int a : WRONG_ACTIVITIES) {
            Check.due("7: relation(" + a + ", 1)", x.relation(a, 1), BAD);
            Check.due("7: relation(1, " + a + ")", x.relation(1, a), BAD);
            Check.due("7: relation(" + a + ", " + a + ")", x.relation(a, a), BAD);
        }
        Build.trace(x, 1, 0);
        Check.due("7: as the log is now", x.relation(0, 1), 3);
    }

    private static void promise8Mine() {
        FootprintNet x = new FootprintNet();
        Check.due("8: mine() of no log", x.mine(), 0);
        Build.trace(x);
        Check.due("8: mine() of an empty trace", x.mine(), 0);
        Build.foundIs("8", x, 0, 0);
        Check.due("8: the same as nothing", x.same(), true);
        x.clear();
        Build.trace(x, 0, 1, 4);
        Build.trace(x, 0, 2, 4);
        Build.trace(x, 3, 1, 4);
        Build.trace(x, 3, 2, 5);
        Check.due("8: mine()", x.mine(), 3);
        Build.foundIs("8: growing inputs, then outputs", x, 9, 48, 4, 48, 6, 16, 9, 6);
        x.event(6);
        Build.foundIs("8: the log grows, the net not", x, 9, 48, 4, 48, 6, 16, 9, 6);
        x.clear();
        Build.trace(x, 0, 2, 1);
        Build.trace(x, 0, 1, 2);
        Check.due("8: parallel outputs stand apart", x.mine(), 2);
        Build.foundIs("8: growing outputs", x, 1, 6, 1, 2, 1, 4);
        x.clear();
        Build.trace(x, 0, 1, 1, 2);
        Check.due("8: 1 is no stranger to itself", x.mine(), 0);
        Build.foundIs("8", x, 1, 4);
        x.clear();
        Build.trace(x, 6);
        Check.due("8: one activity", x.mine(), 0);
        Build.foundIs("8", x, 64, 64);
        Check.due("8: it is an activity of the net", x.sound(1), 1);
    }

    private static void promise8MineMany() {
        FootprintNet x = new FootprintNet();
        Build.steps(x, Build.allSteps(7));
        Check.due("8: mine() of 14 pairs", x.mine(), 14);
        Check.due("8: inputs(1, 0)", x.inputs(1, 0), 2);
        Check.due("8: outputs(1, 0)", x.outputs(1, 0), 8);
        Check.due("8: inputs(1, 13)", x.inputs(1, 13), 32);
        Check.due("8: outputs(1, 13)", x.outputs(1, 13), 64);
        FootprintNet y = new FootprintNet();
        Build.trace(y, 3, 5);
        Check.due("8: mine()", y.mine(), 1);
        y.clear();
        Build.steps(y, Build.allSteps(6));
        Check.due("8: mine() of 15 pairs", y.mine(), MANY);
        Build.foundIs("8: MANY changes nothing", y, 8, 32, 8, 32);
        Check.due("8: nor the activities", y.markings(1), 3);
        Check.due("8: nor soundness", y.sound(1), 1);
        FootprintNet z = new FootprintNet();
        Build.steps(z, Build.allSteps(0));
        Check.due("8: mine() of 21 pairs", z.mine(), MANY);
        Build.foundIs("8: MANY changes nothing", z, 0, 0);
        FootprintNet few = new FootprintNet();
        Build.trace(few, 0, 6);
        Build.trace(few, 1, 6);
        Check.due("8: mine() goes on after MANY", few.mine(), 1);
        Build.foundIs("8", few, 3, 64, 3, 64);
    }

    private static void promise9Place() {
        FootprintNet x = new FootprintNet();
        int[] wrong = {0, 128, -1, 129, 255, 256 + 1, Integer.MIN_VALUE, Integer.MAX_VALUE};
        for (int w : wrong) {
            Check.due("9: place(" + w + ", 1)", x.place(w, 1), BAD);
            Check.due("9: place(1, " + w + ")", x.place(1, w), BAD);
        }
        Check.due("9: BAD changes nothing", x.places(0), 0);
        Check.due("9: place(127, 1)", x.place(127, 1), 0);
        Check.due("9: place(1, 127)", x.place(1, 127), 1);
        Check.due("9: place(1, 127) again", x.place(1, 127), DOUBLE);
        Check.due("9: DOUBLE changes nothing", x.places(0), 2);
        for (int k = 2; k < 14; k++) {
            Check.due("9: place(2, " + k + ")", x.place(2, k), k);
        }
        Check.due("9: a 15th", x.place(3, 3), MANY);
        Check.due("9: DOUBLE before MANY", x.place(127, 1), DOUBLE);
        Check.due("9: BAD before MANY", x.place(0, 1), BAD);
        Check.due("9: MANY changes nothing", x.places(0), 14);
        Check.due("9: inputs(0, 13)", x.inputs(0, 13), 2);
        Check.due("9: outputs(0, 13)", x.outputs(0, 13), 13);
        Check.due("9: net 1 has none of them", x.places(1), 0);
    }

    private static void promise10Ends() {
        FootprintNet x = Build.net(5, 96, 1, 2);
        int[] wrong = {128, -1, 200, 256, Integer.MIN_VALUE, Integer.MAX_VALUE};
        for (int w : wrong) {
            Check.due("10: ends(" + w + ", 1)", x.ends(w, 1), false);
            Check.due("10: ends(1, " + w + ")", x.ends(1, w), false);
        }
        Check.due("10: first is unchanged", x.outputs(0, 1), 5);
        Check.due("10: last is unchanged", x.inputs(0, 1), 96);
        Check.due("10: ends(127, 0)", x.ends(127, 0), true);
        Check.due("10: first is new", x.outputs(0, 1), 127);
        Check.due("10: last is new", x.inputs(0, 1), 0);
        Check.due("10: ends(0, 127)", x.ends(0, 127), true);
        Check.due("10: first is none", x.outputs(0, 1), 0);
        Check.due("10: last is all", x.inputs(0, 1), 127);
        Check.due("10: places stay", x.places(0), 1);
        FootprintNet y = Build.net(3, 3);
        Check.holds("10: ends(1, 1)", y.ends(1, 1));
        Build.trace(y, 0);
        y.mine();
        Check.due("10: 1 is no longer an activity", y.same(), true);
    }

    private static void promise11Reset() {
        FootprintNet x = Build.net(1, 2, 1, 2, 3, 4);
        Build.trace(x, 0, 1);
        x.mine();
        x.reset();
        Check.due("11: places(0)", x.places(0), 0);
        Check.due("11: inputs(0, 0)", x.inputs(0, 0), 0);
        Check.due("11: outputs(0, 0)", x.outputs(0, 0), 0);
        Check.due("11: markings(0)", x.markings(0), 1);
        Check.due("11: play(0)", x.play(0L), BAD);
        Build.foundIs("11: net 1 stays", x, 1, 2, 1, 2);
        Check.due("11: the log stays", x.length(0), 2);
        Check.due("11: places begin anew", x.place(1, 2), 0);
        x.reset();
        x.clear();
        x.mine();
        Check.due("11: no activities are left", x.same(), true);
        FootprintNet full = new FootprintNet();
        for (int k = 1; k <= 14; k++) {
            full.place(1, k);
        }
        full.reset();
        Check.due("11: room for places again", full.place(1, 3), 0);
    }

    private static void promise12Places() {
        FootprintNet x = Build.net(1, 2, 1, 2, 2, 4, 4, 2);
        Build.trace(x, 0, 1, 2);
        x.mine();
        Check.due("12: places(0)", x.places(0), 3);
        Check.due("12: places(1)", x.places(1), 2);
        for (int net : WRONG_NETS) {
            Check.due("12: places(" + net + ")", x.places(net), BAD);
        }
    }

    private static void promise13Inputs() {
        FootprintNet x = Build.net(1, 64, 3, 4, 5, 8);
        Build.trace(x, 0, 1, 2);
        x.mine();
        Check.due("13: inputs(0, 0)", x.inputs(0, 0), 3);
        Check.due("13: inputs(0, 1)", x.inputs(0, 1), 5);
        Check.due("13: inputs(0, 2)", x.inputs(0, 2), 64);
        Check.due("13: inputs(1, 1)", x.inputs(1, 1), 2);
        Check.due("13: inputs(1, 2)", x.inputs(1, 2), 4);
        int[] wrong = {-1, 3, 14, 15, Integer.MIN_VALUE, Integer.MAX_VALUE};
        for (int k : wrong) {
            Check.due("13: inputs(0, " + k + ")", x.inputs(0, k), BAD);
            Check.due("13: inputs(1, " + k + ")", x.inputs(1, k), BAD);
        }
        for (int net : WRONG_NETS) {
            Check.due("13: inputs(" + net + ", 0)", x.inputs(net, 0), BAD);
        }
        FootprintNet full = new FootprintNet();
        full.ends(3, 9);
        for (int k = 1; k <= 14; k++) {
            full.place(k, 1);
        }
        Check.due("13: inputs(0, 14)", full.inputs(0, 14), 9);
        Check.due("13: inputs(0, 15)", full.inputs(0, 15), BAD);
    }

    private static void promise14Outputs() {
        FootprintNet x = Build.net(1, 64, 3, 4, 5, 8);
        Build.trace(x, 0, 1, 2);
        x.mine();
        Check.due("14: outputs(0, 0)", x.outputs(0, 0), 4);
        Check.due("14: outputs(0, 1)", x.outputs(0, 1), 8);
        Check.due("14: outputs(0, 2)", x.outputs(0, 2), 1);
        Check.due("14: outputs(1, 1)", x.outputs(1, 1), 4);
        Check.due("14: outputs(1, 2)", x.outputs(1, 2), 1);
        int[] wrong = {-1, 3, 14, 15, Integer.MIN_VALUE, Integer.MAX_VALUE};
        for (int k : wrong) {
            Check.due("14: outputs(0, " + k + ")", x.outputs(0, k), BAD);
            Check.due("14: outputs(1, " + k + ")", x.outputs(1, k), BAD);
        }
        for (int net : WRONG_NETS) {
            Check.due("14: outputs(" + net + ", 0)", x.outputs(net, 0), BAD);
        }
        FootprintNet full = new FootprintNet();
        full.ends(3, 9);
        for (int k = 1; k <= 14; k++) {
            full.place(1, k);
        }
        Check.due("14: outputs(0, 14)", full.outputs(0, 14), 3);
        Check.due("14: outputs(0, 15)", full.outputs(0, 15), BAD);
    }

    private static void promise15Fits() {
        FootprintNet x = Build.net(1, 8, 1, 2, 1, 4, 2, 8, 4, 8);
        Build.trace(x, 0, 2, 1, 3);
        Build.trace(x, 0, 1, 3);
        Build.trace(x, 0, 1, 2);
        Build.trace(x);
        Build.trace(x, 0, 1, 2, 3, 3);
        Build.trace(x, 0, 1, 2, 3, 4);
        Build.trace(x, 5, 0, 1, 2, 3);
        boolean[] due = {true, false, false, false, false, false, false};
        for (int t = 0; t < due.length; t++) {
            Check.due("15: fits(0, " + t + ")", x.fits(0, t), due[t]);
        }
        int[] wrong = {-1, 7, 20, Integer.MIN_VALUE, Integer.MAX_VALUE};
        for (int t : wrong) {
            Check.due("15: fits(0, " + t + ")", x.fits(0, t), false);
        }
        for (int net : WRONG_NETS) {
            Check.due("15: fits(" + net + ", 0)", x.fits(net, 0), false);
        }
        Check.due("15: an empty net", x.fits(1, 0), false);
        FootprintNet loop = Build.net(1, 1, 2, 4);
        Build.trace(loop, 1, 1, 1, 1, 1, 1, 1, 2, 2, 2, 2, 2, 2, 2, 0);
        Build.trace(loop, 1, 1, 1, 1, 1, 1, 1, 1, 1, 1, 1, 1, 1, 1, 0);
        Build.trace(loop, 1, 1, 1, 1, 1, 1, 1, 1, 1, 1, 1, 1, 1, 1, 1);
        Build.trace(loop, 1, 1, 1, 1, 1, 1, 1, 1, 0);
        Build.trace(loop, 2, 1, 0);
        Check.due("15: a wide net", loop.fits(0, 0), true);
        Check.due("15: 14 tokens are left", loop.fits(0, 1), false);
        Check.due("15: 15 tokens are left", loop.fits(0, 2), false);
        Check.due("15: 8 tokens are left", loop.fits(0, 3), false);
        Check.due("15: 2 has no token yet", loop.fits(0, 4), false);
        Check.due("15: markings(0)", loop.markings(0), WIDE);
    }

    private static void promise15FitsFoundNet() {
        FootprintNet x = new FootprintNet();
        Build.trace(x, 0, 1, 1, 2);
        x.mine();
        Build.trace(x, 0, 2);
        Build.trace(x, 1, 0, 1, 2, 1);
        Build.trace(x, 0);
        Check.due("15: only 0 and 2 know a place", x.fits(1, 0), true);
        Check.due("15: without 1", x.fits(1, 1), true);
        Check.due("15: 1 at any time", x.fits(1, 2), true);
        Check.due("15: 2 is missing", x.fits(1, 3), false);
        x.clear();
        Build.trace(x, 3, 1, 1, 3);
        Check.due("15: mine()", x.mine(), 0);
        Build.trace(x, 3);
        Build.trace(x, 1, 1, 3, 1);
        Build.trace(x, 3, 2);
        Check.due("15: twice from the source", x.fits(1, 0), false);
        Check.due("15: once", x.fits(1, 1), true);
        Check.due("15: 1 is always enabled and changes nothing", x.fits(1, 2), true);
        Check.due("15: 2 is no activity of the net", x.fits(1, 3), false);
    }

    private static void promise16Markings() {
        FootprintNet x = Build.net(1, 8, 1, 2, 1, 4, 2, 8, 4, 8);
        Build.trace(x, 0, 1);
        x.mine();
        Check.due("16: markings(0)", x.markings(0), 6);
        Check.due("16: markings(1)", x.markings(1), 3);
        Check.due("16: markings(0) again", x.markings(0), 6);
        for (int net : WRONG_NETS) {
            Check.due("16: markings(" + net + ")", x.markings(net), BAD);
        }
        FootprintNet most = Build.net(1, 4, 65, 8, 17, 2, 9, 16, 19, 64, 10, 4, 1, 16);
        Check.due("16: 200 markings", most.markings(0), 200);
        FootprintNet more = Build.net(1, 16, 8, 32, 1, 64, 5, 16, 1, 4, 5, 2, 67, 8, 17, 64);
        Check.due("16: 201 markings", more.markings(0), WIDE);
        FootprintNet ring = ring();
        Check.due("16: a ring of five tokens", ring.markings(0), 128);
    }

    /** 0 puts a token into each of five places of a ring, 6 takes one from each. */
    private static FootprintNet ring() {
        return Build.net(1, 64, 1 | 32, 64 | 2, 1 | 2, 64 | 4, 1 | 4, 64 | 8, 1 | 8, 64 | 16, 1 | 16, 64 | 32);
    }

    private static void promise16MarkingsTokens() {
        FootprintNet seven = Build.net(1, 127, 1, 2, 1, 4, 1, 8, 1, 16, 1, 32, 1, 64);
        Check.due("16: 7 tokens in the sink", seven.markings(0), 65);
        FootprintNet eight = Build.net(1, 127, 1, 2, 1, 4, 1, 8, 1, 16, 1, 32, 1 | 32, 64);
        Check.due("16: 8 tokens in the sink", eight.markings(0), WIDE);
        FootprintNet endless = Build.net(1, 2, 4, 8);
        Check.due("16: 2 puts tokens for ever", endless.markings(0), WIDE);
        FootprintNet still = Build.net(0, 0);
        Check.due("16: nothing can fire", still.markings(0), 1);
        FootprintNet dead = Build.net(1, 2, 2, 1);
        Check.due("16: 0 waits for 1, which is free and fills the sink", dead.markings(0), WIDE);
        FootprintNet last = Build.net(1, 2, 1, 2, 2, 1, 64, 64);
        Check.due("16: all wait", last.markings(0), 1);
        Check.due("16: 7 tokens in the 14th inner place", fourteenPlaces(1).markings(0), 81);
        Check.due("16: 8 tokens in the 14th inner place", fourteenPlaces(3).markings(0), WIDE);
    }

    /**
     * The last place gets a token each time that one of 0 .. 5 fires: 5 can fire twice, and so can 4
     * if 0 and 1 come before it.
     */
    private static FootprintNet fourteenPlaces(int beforeFour) {
        return Build.net(1, 64, 1, 2, 1, 4, 1, 8, beforeFour, 16, 3, 32, 1, 64,
                3, 2, 5, 4, 9, 8, 17, 16, 33, 32, 65, 64, 7, 6, 127, 64);
    }

    private static void promise17Sound() {
        FootprintNet x = Build.net(1, 8, 1, 2, 1, 4, 2, 8, 4, 8);
        Build.trace(x, 0, 1);
        Build.trace(x, 0);
        x.mine();
        Check.due("17: sound(0)", x.sound(0), 1);
        Check.due("17: sound(1)", x.sound(1), 0);
        Check.due("17: sound(0) again", x.sound(0), 1);
        for (int net : WRONG_NETS) {
            Check.due("17: sound(" + net + ")", x.sound(net), BAD);
        }
        Check.due("17: an empty net", new FootprintNet().sound(0), 0);
        Check.due("17: a ring of five tokens", ring().sound(0), 1);
        Check.due("17: one activity", Build.net(4, 4).sound(0), 1);
        Check.due("17: a choice", Build.net(3, 3).sound(0), 1);
        Check.due("17: a loop", Build.net(1, 8, 1 | 4, 2, 2, 4 | 8).sound(0), 1);
        Check.due("17: wide by tokens", Build.net(1, 2, 4, 8).sound(0), WIDE);
        Check.due("17: wide by markings",
                Build.net(1, 16, 8, 32, 1, 64, 5, 16, 1, 4, 5, 2, 67, 8, 17, 64).sound(0), WIDE);
        Check.due("17: 200 markings", Build.net(1, 4, 65, 8, 17, 2, 9, 16, 19, 64, 10, 4, 1, 16).sound(0), 0);
    }

    private static void promise17SoundConditions() {
        Check.due("17: one way ends, the other does not", Build.net(3, 4, 1, 4, 2, 8, 8, 16, 16, 8).sound(0), 0);
        Check.due("17: the dead end alone", Build.net(3, 1, 2, 8, 8, 16, 16, 8).sound(0), 0);
        Check.due("17: a token is left behind", Build.net(1, 2, 1, 2, 1, 4, 4, 8, 8, 4).sound(0), 0);
        Check.due("17: the sink has a token too early", Build.net(1, 3, 1, 2).sound(0), 0);
        Check.due("17: too early, though the final one comes yet", Build.net(1, 1, 1, 2).sound(0), 0);
        Check.due("17: two tokens in the sink", Build.net(1, 6, 1, 2, 1, 4).sound(0), 0);
        Check.due("17: a dead activity", Build.net(1, 1, 2, 2).sound(0), 0);
        Check.due("17: a dead activity among the last", Build.net(1, 3, 2, 2).sound(0), 0);
        Check.due("17: the final one, with a token come back in the sink",
                Build.net(1, 2, 1, 6, 4, 2).sound(0), 0);
        FootprintNet x = new FootprintNet();
        Build.trace(x, 0, 1, 1, 2);
        x.mine();
        Check.due("17: 2 fills the sink for ever", x.sound(1), WIDE);
        x.clear();
        Build.trace(x, 3, 1, 1, 3);
        x.mine();
        Check.due("17: 1 is always enabled", x.sound(1), 1);
        Check.due("17: its markings", x.markings(1), 2);
    }

    private static void promise18ShapeLoops() {
        FootprintNet x = Build.net(1, 2, 3, 2);
        Check.due("18: a loop of one", x.shape(0), 1);
        Check.due("18: net 1", x.shape(1), 0);
        for (int net : WRONG_NETS) {
            Check.due("18: shape(" + net + ")", x.shape(net), BAD);
        }
        Check.due("18: nothing", new FootprintNet().shape(0), 0);
        Check.due("18: a chain", Build.net(1, 4, 1, 2, 2, 4).shape(0), 0);
        Check.due("18: a loop of two", Build.net(1, 8, 1 | 4, 2, 2, 4).shape(0), 2);
        Check.due("18: the same activity both ways, in two places", Build.net(1, 1, 1, 2, 4, 1).shape(0), 0);
        Check.due("18: one activity alone is no loop of two", Build.net(1, 1, 2, 2, 6, 2).shape(0), 1);
        Check.due("18: two in one place", Build.net(1, 1, 6, 6).shape(0), 3);
        Check.due("18: of both kinds in two places", Build.net(1, 1, 2 | 4, 2, 2, 4).shape(0), 3);
        Check.due("18: a loop of three", Build.net(1, 1, 2, 4, 4, 8, 8, 2).shape(0), 0);
        Check.due("18: first and last are no loop", Build.net(1, 1).shape(0), 0);
        Check.due("18: the sink and the source are no inner places", Build.net(3, 3, 1, 2).shape(0), 4);
    }

    private static void promise18ShapeChoices() {
        Check.due("18: two inner places", Build.net(1, 1, 1, 6, 2, 4).shape(0), 4);
        Check.due("18: the choice comes later", Build.net(1, 1, 2, 4, 1, 4 | 8).shape(0), 4);
        Check.due("18: both have the same outputs", Build.net(1, 1, 1, 6, 8, 6).shape(0), 4);
        Check.due("18: single outputs", Build.net(1, 1, 1, 4, 2, 4).shape(0), 0);
        Check.due("18: choices apart", Build.net(1, 1, 1, 6, 1, 24).shape(0), 0);
        Check.due("18: one choice alone", Build.net(1, 8, 1, 6).shape(0), 0);
        Check.due("18: the source shares one of its choice", Build.net(3, 8, 8, 2).shape(0), 4);
        Check.due("18: the source shares its only one", Build.net(1, 8, 8, 3).shape(0), 4);
        Check.due("18: the source and single ones", Build.net(1, 8, 8, 1).shape(0), 0);
        Check.due("18: the source alone", Build.net(3, 8).shape(0), 0);
        Check.due("18: the last ones are no outputs", Build.net(1, 6, 1, 2 | 4).shape(0), 0);
        Check.due("18: all of them", Build.net(1, 1, 1 | 4, 2 | 4, 2 | 4, 4).shape(0), 7);
        FootprintNet x = new FootprintNet();
        Build.trace(x, 0, 1, 2, 3);
        Build.trace(x, 0, 2, 1, 3);
        Build.trace(x, 0, 4, 3);
        x.mine();
        Check.due("18: net 1", x.shape(1), 4);
        Check.due("18: net 0", x.shape(0), 0);
    }

    private static void promise19Play() {
        FootprintNet x = Build.net(1, 64, 1, 2 | 4 | 8 | 16 | 32, 2 | 4 | 8 | 16 | 32, 64);
        int[] due = {1, 2, 3, 4, 5, 1, 2, 3};
        for (int p = 0; p < 8; p++) {
            Check.due("19: play", x.play((long) p << 3), p);
            Build.traceIs("19: p mod 5", x, p, 0, due[p], 6);
        }
        Check.due("19: higher bits are not looked at", x.play(-1L << 6 | 2L << 3 | 7), 8);
        Build.traceIs("19", x, 8, 0, 3, 6);
        Check.due("19: play(-1)", x.play(-1L), 9);
        Build.traceIs("19: seven mod five", x, 9, 0, 3, 6);
        Check.due("19: net 0 alone, not net 1", x.places(1), 0);
        Check.holds("19: event goes on with the new trace", x.event(2));
        Build.traceIs("19", x, 9, 0, 3, 6, 2);
        Check.due("19: the log knows what follows", x.relation(0, 3), 1);
        for (int t = 10; t < 20; t++) {
            Check.due("19: play", x.play(0L), t);
        }
        Check.due("19: play at 20", x.play(0L), MANY);
        Check.due("19: MANY changes nothing", x.length(20), BAD);
        x.reset();
        Check.due("19: MANY before BAD", x.play(0L), MANY);
        x.clear();
        Check.due("19: BAD", x.play(0L), BAD);
        Check.due("19: BAD changes nothing", x.length(0), BAD);
    }

    private static void promise19PlayEdges() {
        FootprintNet x = Build.net(1, 2, 1 | 4, 4 | 2);
        Check.due("19: 15 activities", x.play(1L << 3 * 1 | 1L << 3 * 2 | tail(3, 13)), 0);
        Build.traceIs("19", x, 0, 0, 2, 2, 2, 2, 2, 2, 2, 2, 2, 2, 2, 2, 2, 1);
        Check.due("19: never at the end", x.play(tail(1, 14)), BAD);
        Check.due("19: the 16th would end it", x.play(tail(1, 14) | 0L << 45), BAD);
        Check.due("19: the log is as before", x.length(1), BAD);
        Check.due("19: the relation too", x.relation(0, 1), 0);
        Check.due("19: nothing is enabled", Build.net(1, 2, 2, 1, 1, 2).play(0L), BAD);
        Check.due("19: stuck on the way", Build.net(1, 4, 1, 2, 8, 4, 4, 8).play(0L), BAD);
        FootprintNet y = Build.net(1, 1, 2, 4);
        Check.due("19: it stops at the final marking", y.play(0L), 0);
        Build.traceIs("19: though 1 is enabled there", y, 0, 0);
        Check.due("19: 7 tokens come and go", y.play(tail(0, 6) | tail(7, 13) << 1), 1);
        Build.traceIs("19", y, 1, 1, 1, 1, 1, 1, 1, 1, 2, 2, 2, 2, 2, 2, 2, 0);
        Check.due("19: 14 tokens are left", y.play(tail(0, 13)), BAD);
        Check.due("19: 15 tokens are left", y.play(tail(0, 14)), BAD);
    }

    /** Ones at the choices from .. to. */
    private static long tail(int from, int to) {
        long tape = 0L;
        for (int i = from; i <= to; i++) {
            tape |= 1L << 3 * i;
        }
        return tape;
    }

    private static void promise20Same() {
        FootprintNet x = Build.net(1, 8, 4, 8, 2, 8, 1, 4, 1, 2);
        Build.trace(x, 0, 1, 2, 3);
        Build.trace(x, 0, 2, 1, 3);
        Check.due("20: before mine()", x.same(), false);
        Check.due("20: mine()", x.mine(), 4);
        Check.due("20: in whatever order", x.same(), true);
        x.ends(3, 8);
        Check.due("20: other first ones", x.same(), false);
        x.ends(1, 9);
        Check.due("20: other last ones", x.same(), false);
        x.ends(1, 8);
        Check.due("20: as before", x.same(), true);
        x.place(1, 8);
        Check.due("20: a place more in net 0", x.same(), false);
        FootprintNet y = Build.net(1, 8, 4, 8, 2, 8, 1, 4, 2, 1);
        Build.trace(y, 0, 1, 2, 3);
        Build.trace(y, 0, 2, 1, 3);
        y.mine();
        Check.due("20: as many, but one is another", y.same(), false);
        FootprintNet fewer = Build.net(1, 8, 4, 8, 2, 8, 1, 4);
        Build.trace(fewer, 0, 1, 2, 3);
        Build.trace(fewer, 0, 2, 1, 3);
        fewer.mine();
        Check.due("20: a place fewer in net 0", fewer.same(), false);
        FootprintNet z = Build.net(8, 8);
        Build.trace(z, 3, 1, 1, 3);
        z.mine();
        Check.due("20: net 1 has an activity more", z.same(), false);
        z.clear();
        Build.trace(z, 3);
        z.mine();
        Check.due("20: the same activities", z.same(), true);
        FootprintNet w = Build.net(1, 8, 2, 8, 1, 2);
        Build.trace(w, 0, 1, 3);
        Build.trace(w, 0, 2, 3);
        w.mine();
        Check.due("20: other sets", w.same(), false);
    }
}
