/** Promise 10: count. */
public final class CountTest {
    public static void main(String[] args) {
        Harness h = new Harness("CountTest");
        others(h);
        declared(h);
        steps(h);
        states(h);
        outs(h);
        lost(h);
        h.close();
    }

    /** REFUSED for others than 0 to 12; 0 without a circuit. */
    private static void others(Harness h) {
        refused(h);
        zeros(h);
        h.fault("@");
        refused(h);
        zeros(h);
        h.good("{}");
        refused(h);
        h.due("run", h.forge.run(1), 1);
        refused(h);
        h.good("{ while (1) skip; }");
        h.due("run", h.forge.run(1), 3);
        refused(h);
    }

    private static void refused(Harness h) {
        for (int what : new int[] {-1, 13, -2, 14, Integer.MIN_VALUE, Integer.MAX_VALUE}) {
            h.counts(what, HandshakeForge.REFUSED);
        }
    }

    private static void zeros(Harness h) {
        for (int what = 0; what <= 12; what++) {
            h.counts(what, 0);
        }
    }

    private static void declared(Harness h) {
        h.good("int a; var b:2; array c[4]; array d[1]; array e[2]; chan f; chan g; chan i; chan j; in k; out l; out m; "
                + "proc n(x, y) { int z; { int z; } } fun o(x) {return 1;} { int a; }");
        h.counts(1, 8);
        h.counts(2, 3);
        h.counts(3, 4);
        h.counts(4, 1);
        h.counts(5, 2);
        h.counts(6, 2);
        h.good("{}");
        for (int what = 1; what <= 6; what++) {
            h.counts(what, 0);
        }
        h.counts(0, 1);
    }

    private static void steps(Harness h) {
        h.fresh();
        h.good("in i; { int x; i ? x; while (x) skip; }");
        h.counts(7, 0);
        h.due("run", h.forge.run(100), 2);
        h.counts(7, 2);
        h.due("run", h.forge.run(100), 2);
        h.counts(7, 0);
        h.forge.give(0, 0);
        h.due("run", h.forge.run(100), 1);
        h.counts(7, 2);
        h.due("a refused run is none", h.forge.run(0), HandshakeForge.REFUSED);
        h.counts(7, 2);
        h.forge.begin();
        h.counts(7, 2);
        h.forge.give(0, 1);
        h.due("run", h.forge.run(100), 3);
        h.counts(7, 0);
        h.due("a refused run is none", h.forge.run(100), HandshakeForge.REFUSED);
        h.counts(7, 0);
    }

    private static void states(Harness h) {
        h.fresh();
        h.counts(8, 0);
        h.good("in i; { int x; i ? x; while (x) skip; }");
        h.counts(8, 0);
        h.forge.run(100);
        h.counts(8, 2);
        h.forge.give(0, 0);
        h.counts(8, 2);
        h.forge.run(100);
        h.counts(8, 1);
        h.forge.begin();
        h.counts(8, 0);
        h.forge.give(0, 1);
        h.forge.run(100);
        h.counts(8, 3);
        h.counts(0, 5);
        h.counts(1, 1);
        h.counts(4, 1);
    }

    /** Values that outs 0 to 3 hold, 0 for those that there are not. */
    private static void outs(Harness h) {
        for (int n = 0; n <= 4; n++) {
            h.ended(Harness.many("out o#;", n) + "{ " + Harness.many("repeat #9 o# ! 1;", n) + "}");
            for (int i = 0; i < 4; i++) {
                h.counts(9 + i, i < n ? 10 * i + 9 : 0);
                h.forge.take(i);
                h.counts(9 + i, i < n ? 10 * i + 8 : 0);
            }
        }
    }

    /** 0 if LOST. */
    private static void lost(Harness h) {
        h.good("out a; out b; out c; out d; in i; { a ! 1; c ! 1; c ! 2; d ! 1; d ! 2; d ! 3; { int x; i ? x; while (1) skip; } }");
        h.forge.run(100);
        h.counts(7, 15);
        h.counts(9, 1);
        h.counts(10, 0);
        h.counts(11, 2);
        h.counts(12, 3);
        h.forge.give(0, 1);
        h.forge.run(100);
        h.counts(7, 0);
        h.counts(8, 3);
        for (int what = 9; what <= 12; what++) {
            h.counts(what, 0);
        }
        h.counts(5, 4);
    }
}
