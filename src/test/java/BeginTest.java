/** Promises 4 and 5: how a circuit begins, and begins anew. */
public final class BeginTest {
    public static void main(String[] args) {
        Harness h = new Harness("BeginTest");
        noCircuit(h);
        anew(h);
        fromEachState(h);
        compileAnew(h);
        faultKeeps(h);
        h.close();
    }

    private static final String TEXT = "in i; out o; int v; array a[4]; chan c; "
            + "proc p(x) { int n; n = n + x; v = n; } "
            + "{ int x; i ? x; p(x); a[2] = x; o ! x; par { c ! 1; | { int y; i ? y; c ? y; } } }";

    /** NONE without one, whatever was called before. */
    private static void noCircuit(Harness h) {
        h.due("begin without a circuit", h.forge.begin(), HandshakeForge.NONE);
        h.due("begin without a circuit again", h.forge.begin(), HandshakeForge.NONE);
        h.fault("{ @");
        h.due("begin behind a fault", h.forge.begin(), HandshakeForge.NONE);
        h.fault("int v; { @par { v = 1; | v = 2; } }");
        h.due("begin behind a fault of a par", h.forge.begin(), HandshakeForge.NONE);
        h.tape("{}");
        h.due("begin before a text is compiled", h.forge.begin(), HandshakeForge.NONE);
        h.due("compile", h.forge.compile(), HandshakeForge.NONE);
        h.due("begin", h.forge.begin(), 0);
        h.due("begin again", h.forge.begin(), 0);
        h.fault("{ @");
        h.due("begin of the circuit that stays", h.forge.begin(), 0);
    }

    private static void anew(Harness h) {
        h.good(TEXT);
        h.forge.give(0, 7);
        h.due("run", h.forge.run(20000), 2);
        h.forge.give(0, 8);
        h.holds("v", 7);
        h.holds("a", 2, 7);
        h.counts(9, 1);
        h.due("begin", h.forge.begin(), 0);
        h.counts(8, 0);
        h.counts(9, 0);
        h.holds("v", 0);
        h.holds("a", 2, 0);
        h.due("take", h.forge.take(0), Harness.NO_VALUE);
        h.due("give", h.forge.give(0, 5), 1);
        h.due("give", h.forge.give(0, 6), 2);
        h.due("run", h.forge.run(20000), 1);
        h.holds("v", 5);
        h.due("take", h.forge.take(0), 5);
    }

    private static void fromEachState(Harness h) {
        h.fresh();
        h.good("in i; int v; { v = 3; i ? v; while (v) skip; v = 9; }");
        h.due("begin when ready", h.forge.begin(), 0);
        h.due("run", h.forge.run(20000), 2);
        h.due("begin when it waits", h.forge.begin(), 0);
        h.holds("v", 0);
        h.forge.give(0, 1);
        h.due("run", h.forge.run(20000), 3);
        h.due("begin when lost", h.forge.begin(), 0);
        h.counts(8, 0);
        h.holds("v", 0);
        h.forge.give(0, 0);
        h.due("run", h.forge.run(20000), 1);
        h.holds("v", 9);
        h.due("begin when ended", h.forge.begin(), 0);
        h.holds("v", 0);
        h.due("run", h.forge.run(20000), 2);
    }

    private static void compileAnew(Harness h) {
        h.fresh();
        h.good(TEXT);
        h.forge.give(0, 7);
        h.forge.run(20000);
        h.good(TEXT);
        h.counts(8, 0);
        h.counts(9, 0);
        h.holds("v", 0);
        h.due("give", h.forge.give(0, 1), 1);
        h.good("in other; int v; { v = 1; }");
        h.holds("a", Harness.NO_VALUE);
        h.due("give", h.forge.give(0, 1), 1);
        h.due("run", h.forge.run(20000), 1);
        h.holds("v", 1);
        h.good("{ while (1) skip; }");
        h.due("run", h.forge.run(100), 3);
        h.good("int v; { v = 2; }");
        h.due("run of a new circuit", h.forge.run(100), 1);
        h.holds("v", 2);
    }

    /** Of a text with a fault all stays, in every state. */
    private static void faultKeeps(Harness h) {
        h.fresh();
        h.good("in i; out o; int v; { o ! 9; i ? v; o ! v; i ? v; while (v == 7) skip; }");
        staysAll(h, 0, 0, 0);
        h.forge.give(0, 4);
        h.due("run", h.forge.run(20000), 2);
        staysAll(h, 2, 4, 2);
        h.forge.give(0, 5);
        staysAll(h, 2, 4, 2);
        h.due("run goes on", h.forge.run(20000), 1);
        staysAll(h, 1, 5, 2);
        h.due("take", h.forge.take(0), 9);
        h.due("take", h.forge.take(0), 4);
        h.forge.begin();
        h.forge.give(0, 4);
        h.forge.give(0, 7);
        staysAll(h, 0, 0, 0);
        h.due("run", h.forge.run(20000), 3);
        staysAll(h, 3, Harness.NO_VALUE, 0);
    }

    private static void staysAll(Harness h, int state, long v, int held) {
        int[] before = new int[13];
        for (int what = 0; what <= 12; what++) {
            before[what] = h.forge.count(what);
        }
        h.fault("int w; chan c; array q[4]; in x; in y; out z; proc p(x) { x = 1; } { w = @nosuch; }");
        h.fault("int w; { @par { w = 1; | w = 2; } }");
        h.fault("@");
        for (int what = 0; what <= 12; what++) {
            h.counts(what, before[what]);
        }
        h.counts(8, state);
        h.counts(9, held);
        h.holds("v", v);
        h.holds("w", Harness.NO_VALUE);
        h.due("give to no in", h.forge.give(1, 1), HandshakeForge.NONE);
    }
}
