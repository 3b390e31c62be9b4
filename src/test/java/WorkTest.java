/** Promise 6: what the parts do, and where they wait. */
public final class WorkTest {
    public static void main(String[] args) {
        Harness h = new Harness("WorkTest");
        flow(h);
        calls(h);
        channels(h);
        waits(h);
        waitsNoLonger(h);
        h.close();
    }

    private static void flow(Harness h) {
        h.ended("int v; int w; { while (v < 10) { v = v + 1; w = w + v; } }");
        h.holds("v", 10);
        h.holds("w", 55);
        h.ended("int v; { repeat 7 v = v + 2; repeat 0 v = 99; }");
        h.holds("v", 14);
        h.ended("int v; { if (v) v = 5; else v = 6; if (v) v = v * 2; if (v - 12) v = 0; else skip; }");
        h.holds("v", 12);
        h.ended("int v; { if (1) if (0) v = 1; else v = 2; }");
        h.holds("v", 2);
        h.ended("int v; { repeat 3 repeat 4 v = v + 1; }");
        h.holds("v", 12);
        h.ended("int u; int v; int w; { par { u = 1; | { v = 2; v = v + 3; } | repeat 4 w = w + 1; } u = u + v + w; }");
        h.holds("u", 10);
    }

    private static void calls(Harness h) {
        h.ended("int v; fun add(a, b) {return a + b;} { v = add(add(1, 2), add(3, add(4, 5))); }");
        h.holds("v", 15);
        h.ended("int v; fun fac(n) { int r; r = 1; while (n > 1) { r = r * n; n = n - 1; } return r; } { v = fac(7); }");
        h.holds("v", 5040);
        // Ints in a routine are what they were; parameters are not.
        h.ended("int v; proc p(x) { int n; n = n + x; v = n; } { p(3); p(4); }");
        h.holds("v", 7);
        h.ended("int v; fun f() { int n; n = n + 1; return n; } { v = f() * 100 + f() * 10 + f(); }");
        h.holds("v", 123);
        h.ended("int v; int w; { repeat 3 { int n; n = n + 1; v = n; } }");
        h.holds("v", 3);
        h.ended("int v; fun f(a, b, c, d) {return a * 1000 + b * 100 + c * 10 + d;} { v = f(1, 2, 3, 4); }");
        h.holds("v", 1234);
        // All E are done before they become the parameters.
        h.ended("int v; fun f(a, b) {return a * 10 + b;} { v = f(f(1, 2), f(3, 4)); }");
        h.holds("v", 154);
        h.ended("int v; proc p() { v = v + 1; } proc q() { p(); p(); } { q(); q(); p(); }");
        h.holds("v", 5);
    }

    private static void channels(Harness h) {
        h.ended("int v; chan c; chan d; { par { repeat 5 c ! 3; | repeat 5 { int x; c ? x; d ! x * 2; } "
                + "| repeat 5 { int y; d ? y; v = v + y; } } }");
        h.holds("v", 30);
        h.ended("int v; chan c; { par { c ? v; | par { c ! 4; | skip; } } }");
        h.holds("v", 4);
        h.ended("int v; chan c; proc s(x) { c ! x; c ! x + 1; } proc r() { int y; c ? y; c ? v; v = v * 10 + y; } "
                + "{ par { s(1); | r(); } par { r(); | s(3); } }");
        h.holds("v", 43);
        // Whoever comes first waits for the other.
        h.ended("chan c; int v; proc r() { c ? v; } { par { c ! 1; | r(); } }");
        h.holds("v", 1);
        h.ended("chan c; int v; proc r() { c ? v; } { par { r(); | c ! 2; } }");
        h.holds("v", 2);
        h.good("int v; chan c; { par { { c ! 1; c ! 2; v = 5; } | { int x; c ? x; } } }");
        h.due("run", h.forge.run(20000), 2);
        h.holds("v", 0);
        h.good("chan c; int v; { c ! 1; v = 1; }");
        h.due("run of a send nobody receives", h.forge.run(5), 2);
        h.due("run again", h.forge.run(5), 2);
        h.counts(7, 0);
        h.holds("v", 0);
    }

    private static void waits(Harness h) {
        h.good("in i; out o; int n; { while (1) { int x; i ? x; n = n + 1; o ! x * x; } }");
        h.due("run", h.forge.run(20000), 2);
        h.counts(7, 4);
        h.due("give", h.forge.give(0, 5), 1);
        h.due("give", h.forge.give(0, -6), 2);
        h.due("run", h.forge.run(20000), 2);
        // For each value: the assignment with its 3 E, the send with its 3 E; then while's E, block and receive.
        h.counts(7, 2 * (4 + 4 + 3));
        h.due("take", h.forge.take(0), 25);
        h.due("take", h.forge.take(0), 36);
        h.due("take", h.forge.take(0), Harness.NO_VALUE);
        h.due("run with nothing new", h.forge.run(1), 2);
        h.counts(7, 0);
        h.holds("n", 2);
    }

    /** What waited for an in or out and then was done does not come to work again. */
    private static void waitsNoLonger(Harness h) {
        h.fresh();
        h.good("in i; in j; out o; int v; int w; { i ? v; repeat 41 o ! v; j ? w; }");
        h.due("run", h.forge.run(20000), 2);
        h.counts(7, 2);
        h.forge.give(0, 5);
        h.due("run", h.forge.run(20000), 2);
        h.holds("v", 5);
        h.counts(9, 40);
        h.due("give", h.forge.give(0, 6), 1);
        h.due("run while the out is full", h.forge.run(20000), 2);
        h.counts(7, 0);
        h.holds("v", 5);
        h.due("take", h.forge.take(0), 5);
        h.due("run", h.forge.run(20000), 2);
        h.counts(7, 1);
        h.due("take", h.forge.take(0), 5);
        h.due("run while the other in is empty", h.forge.run(20000), 2);
        h.counts(7, 0);
        h.counts(9, 39);
        h.holds("v", 5);
        h.due("give", h.forge.give(0, 7), 2);
        h.forge.give(1, 8);
        h.due("run", h.forge.run(20000), 1);
        h.holds("w", 8);
        h.forge.give(1, 9);
        h.due("run when ended", h.forge.run(20000), 1);
        h.counts(7, 0);
        h.counts(8, 1);
        h.counts(9, 39);
        h.holds("v", 5);
        h.holds("w", 8);
        h.due("give", h.forge.give(0, 10), 3);
    }
}
