/** Counts and prints the answers that are not as due. */
final class Check {
    private static int wrong = 0;
    private static int looked = 0;

    private Check() {
    }

    static void due(String call, long got, long want) {
        looked++;
        if (got != want) {
            wrong++;
            System.out.println(call + " answered " + got + ", due is " + want);
        }
    }

    static void due(String call, boolean got, boolean want) {
        due(call, got ? 1L : 0L, want ? 1L : 0L);
    }

    static void holds(String what, boolean held) {
        due(what, held, true);
    }

    /** What no answer is equal to, so that a call without one is not taken for right. */
    static long failed(String what) {
        holds(what, false);
        return Long.MIN_VALUE;
    }

    static int wrongOnes() {
        return wrong;
    }

    static void end() {
        System.out.println(looked + " answers, " + wrong + " not as due");
        if (wrong != 0) {
            System.exit(1);
        }
    }
}
