/** Promise 6: run, its steps at their limit, and what is left of a circuit that is lost. */
public final class RunTest {
    private static final int REFUSED = HandshakeForge.REFUSED;
    private static final String LOOP = "in i; out o; int v; array a[2]; "
            + "{ v = 3; a[1] = 4; o ! 5; i ? v; while (v) o ! 6; }";

    public static void main(String[] args) {
        Harness h = new Harness("RunTest");
        arguments(h);
        justEnough(h);
        mostSteps(h);
        stepsOfThisRun(h);
        stays(h);
        lost(h);
        lostTillAnew(h);
        lostInBranches(h);
        h.close();
    }

    /** At most n (1 to 20000) STEPS; REFUSED for another n, in every state; NONE without a circuit. */
    private static void arguments(Harness h) {
        int[] others = {0, -1, 20001, 20002, Integer.MIN_VALUE, Integer.MAX_VALUE};
        for (int n : new int[] {0, 1, -1, 20000, 20001, Integer.MIN_VALUE, Integer.MAX_VALUE}) {
            h.due("run of " + n + " without a circuit", h.forge.run(n), HandshakeForge.NONE);
        }
        h.good(LOOP);
        refused(h, others, 0);
        h.due("run", h.forge.run(20000), 2);
        refused(h, others, 2);
        h.forge.give(0, 0);
        h.due("run", h.forge.run(20000), 1);
        refused(h, others, 1);
        h.forge.begin();
        h.forge.give(0, 1);
        h.due("run of the least", h.forge.run(1), 3);
        refused(h, others, 3);
        refused(h, new int[] {1, 2, 19999, 20000}, 3);
    }

    /** A refused run changes nothing. */
    private static void refused(Harness h, int[] arguments, int state) {
        int steps = h.forge.count(7);
        int held = h.forge.count(9);
        for (int n : arguments) {
            h.due("run of " + n, h.forge.run(n), REFUSED);
            h.counts(7, steps);
            h.counts(8, state);
            h.counts(9, held);
        }
    }

    /** With one step less than it takes it is lost, with just as many or one more it is not. */
    private static void justEnough(Harness h, String text, int steps, int state) {
        for (int n = steps - 1; n <= steps + 1; n++) {
            h.fresh();
            h.good(text);
            int want = n < steps ? 3 : state;
            if (n < 1) {
                want = REFUSED;
            }
            h.due("run of " + n + " of '" + text + "'", h.forge.run(n), want);
            h.counts(7, n < steps ? 0 : steps);
            h.counts(8, n < 1 ? 0 : want);
        }
    }

    private static void justEnough(Harness h) {
        justEnough(h, "{}", 1, 1);
        justEnough(h, "{ skip; skip; }", 3, 1);
        justEnough(h, "int v; { v = 1; v = v + 1; }", 7, 1);
        justEnough(h, "array a[2]; { a[a[0]] = -1; }", 5, 1);
        justEnough(h, "{ if (0) skip; }", 2, 1);
        justEnough(h, "{ if (0) skip; else skip; }", 3, 1);
        justEnough(h, "{ while (0) skip; }", 2, 1);
        justEnough(h, "{ repeat 0 skip; }", 1, 1);
        justEnough(h, "{ repeat 3 skip; }", 4, 1);
        justEnough(h, "{ par { skip; | skip; | { skip; skip; } } }", 6, 1);
        justEnough(h, "int v; chan c; { par { c ! 1; | c ? v; } }", 4, 1);
        justEnough(h, "int v; fun f(x) {return x;} { v = f(1); }", 4, 1);
        justEnough(h, "proc p(x) { skip; skip; } { p(1); }", 5, 1);
        justEnough(h, "in i; { int x; i ? x; skip; }", 2, 2);
        justEnough(h, "chan c; { c ! 1 + 1; }", 4, 2);
        justEnough(h, "chan c; { par { c ! 1; | repeat 3 skip; } }", 7, 2);
        justEnough(h, "out o; { repeat 41 o ! 1; }", 1 + 41 * 2, 2);
        justEnough(h, "out o; { repeat 40 o ! 1; }", 1 + 40 * 2, 1);
    }

    private static void mostSteps(Harness h) {
        for (int n = 19998; n <= 20000; n++) {
            h.good("{ repeat " + n + " skip; }");
            h.due("run of " + (n + 1) + " steps", h.forge.run(20000), n < 20000 ? 1 : 3);
            h.counts(7, n < 20000 ? n + 1 : 0);
        }
        h.good("{ repeat 65535 skip; }");
        h.due("run of 65536 steps", h.forge.run(20000), 3);
        h.good("{ while (1) skip; }");
        h.due("run without an end", h.forge.run(20000), 3);
    }

    /** Each run has its own steps, however many there were before. */
    private static void stepsOfThisRun(Harness h) {
        h.good("in i; { repeat 9 { int x; i ? x; skip; } }");
        h.due("run", h.forge.run(3), 2);
        h.counts(7, 3);
        for (int n = 1; n < 9; n++) {
            h.due("run with nothing new", h.forge.run(1), 2);
            h.counts(7, 0);
            h.forge.give(0, n);
            h.due("run", h.forge.run(3), 2);
            h.counts(7, 3);
        }
        h.forge.give(0, 1);
        h.due("run to the end", h.forge.run(1), 1);
        h.counts(7, 1);
        h.good("in i; { int x; while (1) { i ? x; repeat 65535 skip; } }");
        h.due("run", h.forge.run(20000), 2);
        h.forge.give(0, 1);
        h.due("run", h.forge.run(20000), 3);
        // 40 runs of nearly as many steps as there may be.
        h.good("in i; { int x; while (1) { i ? x; repeat 19990 skip; } }");
        for (int n = 0; n < 40; n++) {
            h.due("run", h.forge.run(20000), 2);
            h.counts(7, n == 0 ? 4 : 1 + 19990 + 3);
            h.due("give", h.forge.give(0, 1), 1);
        }
    }

    /** ENDED it stays so, with no STEPS. */
    private static void stays(Harness h) {
        h.good("in i; out o; int v; { v = 1; o ! 2; }");
        h.due("run", h.forge.run(20000), 1);
        h.counts(7, 5);
        for (int n : new int[] {1, 5, 20000}) {
            h.forge.give(0, n);
            h.due("run when ended", h.forge.run(n), 1);
            h.counts(7, 0);
            h.counts(8, 1);
            h.counts(9, 1);
            h.holds("v", 1);
        }
        h.due("give to an in that nobody reads", h.forge.give(0, 1), 4);
        h.due("take when ended", h.forge.take(0), 2);
        h.due("run when ended", h.forge.run(1), 1);
        h.counts(9, 0);
    }

    /** All that it holds is of no meaning. */
    private static void lost(Harness h) {
        h.good(LOOP);
        h.due("run", h.forge.run(20000), 2);
        h.forge.give(0, 1);
        int parts = h.forge.count(0);
        h.due("run", h.forge.run(50), 3);
        isLost(h);
        h.counts(0, parts);
        h.counts(1, 1);
        h.counts(2, 1);
        h.counts(3, 0);
        h.counts(4, 1);
        h.counts(5, 1);
        h.counts(6, 0);
    }

    private static void isLost(Harness h) {
        h.due("run when lost", h.forge.run(20000), REFUSED);
        h.due("give when lost", h.forge.give(0, 1), HandshakeForge.NONE);
        h.due("take when lost", h.forge.take(0), Harness.NO_VALUE);
        h.holds("v", Harness.NO_VALUE);
        h.holds("a", 1, Harness.NO_VALUE);
        h.counts(7, 0);
        h.counts(8, 3);
        for (int what = 9; what <= 12; what++) {
            h.counts(what, 0);
        }
    }

    /** Till it begins anew: by begin or a new text, not by a text with a fault. */
    private static void lostTillAnew(Harness h) {
        h.fault("{ @");
        isLost(h);
        h.fault("int w; { @par { w = 1; | w = 2; } }");
        isLost(h);
        h.due("begin", h.forge.begin(), 0);
        asNew(h);
        h.forge.give(0, 1);
        h.due("run", h.forge.run(9), 3);
        isLost(h);
        h.good(LOOP);
        asNew(h);
    }

    private static void asNew(Harness h) {
        h.counts(8, 0);
        h.counts(9, 0);
        h.holds("v", 0);
        h.holds("a", 1, 0);
        h.due("take", h.forge.take(0), Harness.NO_VALUE);
        h.due("run", h.forge.run(20000), 2);
        h.holds("v", 3);
        h.holds("a", 1, 4);
        h.due("take", h.forge.take(0), 5);
        h.due("give", h.forge.give(0, 0), 1);
        h.due("run", h.forge.run(20000), 1);
        h.forge.begin();
    }

    /** Nothing that was still to be done is left over, whatever step was the last. */
    private static void lostInBranches(Harness h) {
        String text = "int v; int w; chan c; { par { repeat 3 v = v + 1; | { c ! 5; w = w + 1; } | { int x; c ? x; skip; } } }";
        h.good(text);
        h.due("run", h.forge.run(20000), 1);
        int steps = h.forge.count(7);
        for (int n = 1; n < steps; n++) {
            h.fresh();
            h.good(text);
            h.due("run of " + n + " steps", h.forge.run(n), 3);
            h.due("begin", h.forge.begin(), 0);
            h.due("run", h.forge.run(steps), 1);
            h.counts(7, steps);
            h.holds("v", 3);
            h.holds("w", 1);
            h.forge.begin();
            h.due("run of " + n + " steps", h.forge.run(n), 3);
            h.good("int v; { v = 7; }");
            h.due("run", h.forge.run(2), 1);
            h.counts(7, 2);
            h.holds("v", 7);
        }
    }
}
