/** Promises 7 and 8: give and take. */
public final class QueueTest {
    public static void main(String[] args) {
        Harness h = new Harness("QueueTest");
        give(h);
        take(h);
        lost(h);
        h.close();
    }

    private static void give(Harness h) {
        h.good("in i; in j; int v; int w; { i ? v; j ? w; }");
        h.due("give", h.forge.give(-1, 1), HandshakeForge.NONE);
        h.due("give", h.forge.give(2, 1), HandshakeForge.NONE);
        h.due("give", h.forge.give(Integer.MAX_VALUE, 1), HandshakeForge.NONE);
        h.due("give", h.forge.give(Integer.MIN_VALUE, 1), HandshakeForge.NONE);
        for (int n = 1; n <= 40; n++) {
            h.due("give", h.forge.give(0, n), n);
        }
        h.due("give to a full one", h.forge.give(0, 41), HandshakeForge.FULL);
        h.due("give to the other", h.forge.give(1, 32768), 1);
        h.due("run", h.forge.run(20), 1);
        h.holds("v", 1);
        h.holds("w", -32768);
        h.due("give when ended", h.forge.give(0, 41), 40);
        h.due("give to a full one", h.forge.give(0, 42), HandshakeForge.FULL);
        h.due("give when ended", h.forge.give(1, 0), 1);
        bits(h);
        order(h);
    }

    private static void bits(Harness h) {
        int[] values = {0, 1, -1, 32767, 32768, 65535, 65536, -32769, Integer.MAX_VALUE, Integer.MIN_VALUE};
        for (int v : values) {
            h.good("in i; out o; int hi; { int x; i ? x; o ! x; hi = x >> 8; }");
            h.forge.give(0, v);
            h.due("run", h.forge.run(20), 1);
            h.due("take of " + v, h.forge.take(0), (short) v);
            h.holds("hi", (short) v >> 8);
        }
    }

    /** First in, first out, also when the row goes round. */
    private static void order(Harness h) {
        h.fresh();
        h.good("in i; out o; { int x; while (1) { i ? x; o ! x; } }");
        int given = 0;
        int taken = 0;
        for (int round = 0; round < 4; round++) {
            for (int n = 0; n < 17 + round * 3; n++) {
                h.forge.give(0, given++);
            }
            h.due("run", h.forge.run(20000), 2);
            for (int n = 0; n < 13 + round * 3; n++) {
                h.due("take", h.forge.take(0), taken++);
            }
        }
        while (taken < given) {
            h.due("take", h.forge.take(0), taken++);
        }
        h.due("take", h.forge.take(0), Harness.NO_VALUE);
    }

    private static void take(Harness h) {
        h.fresh();
        h.good("out o; out p; { o ! 1; p ! 65535; o ! 65535 * 65535; p ! 0; }");
        h.due("take before", h.forge.take(0), Harness.NO_VALUE);
        h.due("run", h.forge.run(20), 1);
        h.due("take", h.forge.take(-1), Harness.NO_VALUE);
        h.due("take", h.forge.take(2), Harness.NO_VALUE);
        h.due("take", h.forge.take(Integer.MAX_VALUE), Harness.NO_VALUE);
        h.due("take", h.forge.take(Integer.MIN_VALUE), Harness.NO_VALUE);
        h.due("take", h.forge.take(1), -1);
        h.due("take", h.forge.take(0), 1);
        h.due("take", h.forge.take(0), 1);
        h.due("take", h.forge.take(0), Harness.NO_VALUE);
        h.due("take", h.forge.take(1), 0);
        h.due("take", h.forge.take(1), Harness.NO_VALUE);
    }

    private static void lost(Harness h) {
        h.good("in i; out o; { o ! 1; o ! 2; while (1) skip; }");
        h.due("give", h.forge.give(0, 1), 1);
        h.due("run", h.forge.run(100), 3);
        h.due("give when lost", h.forge.give(0, 1), HandshakeForge.NONE);
        h.due("take when lost", h.forge.take(0), Harness.NO_VALUE);
        h.counts(9, 0);
        h.due("begin", h.forge.begin(), 0);
        h.due("give", h.forge.give(0, 1), 1);
        h.due("take", h.forge.take(0), Harness.NO_VALUE);
    }
}
