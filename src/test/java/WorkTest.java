/** Promise 6: what the parts do, and how a run ends, waits or is lost. */
public final class WorkTest {
    public static void main(String[] args) {
        Harness h = new Harness("WorkTest");
        values(h);
        levels(h);
        keeping(h);
        subscripts(h);
        flow(h);
        calls(h);
        channels(h);
        waits(h);
        limits(h);
        h.close();
    }

    /** The 32 bits of an E, looked at by its halves. */
    private static void value(Harness h, String e, int want) {
        h.ended("int lo; int hi; { lo = " + e + "; hi = (" + e + ") >> 16; }");
        h.holds("lo", (short) want);
        h.holds("hi", want >> 16);
    }

    private static void values(Harness h) {
        value(h, "65535 * 65535", 65535 * 65535);
        value(h, "65535 * 65535 * 3 + 1", 65535 * 65535 * 3 + 1);
        value(h, "1 << 31", 1 << 31);
        value(h, "(1 << 31) - 1", Integer.MAX_VALUE);
        value(h, "-(1 << 31)", Integer.MIN_VALUE);
        value(h, "(1 << 31) / -1", Integer.MIN_VALUE);
        value(h, "(1 << 31) % -1", 0);
        value(h, "7 / 2", 3);
        value(h, "-7 / 2", -3);
        value(h, "7 / -2", -3);
        value(h, "-7 % 3", -1);
        value(h, "7 % -3", 1);
        value(h, "7 / 0", 0);
        value(h, "-7 % 0", 0);
        value(h, "0 / 0", 0);
        value(h, "1 << 32", 1);
        value(h, "1 << -1", 1 << 31);
        value(h, "-16 >> 2", -4);
        value(h, "-1 >> 63", -1);
        value(h, "(1 << 31) >> 33", 1 << 30 | 1 << 31);
        value(h, "~0", -1);
        value(h, "!0", 1);
        value(h, "!7", 0);
        value(h, "!-1", 0);
        value(h, "- -5", 5);
        value(h, "-~!0", 2);
        value(h, "3 && 4", 1);
        value(h, "3 && 0", 0);
        value(h, "0 || 4", 1);
        value(h, "0 || 0", 0);
        value(h, "6 & 3", 2);
        value(h, "6 | 3", 7);
        value(h, "6 ^ 3", 5);
        value(h, "-1 < 1", 1);
        value(h, "1 < 1", 0);
        value(h, "1 <= 1", 1);
        value(h, "2 <= 1", 0);
        value(h, "1 > -1", 1);
        value(h, "1 > 1", 0);
        value(h, "1 >= 1", 1);
        value(h, "0 >= 1", 0);
        value(h, "5 == 5", 1);
        value(h, "5 == 6", 0);
        value(h, "5 != 5", 0);
        value(h, "5 != 6", 1);
    }

    private static void levels(Harness h) {
        value(h, "10 - 4 - 3", 3);
        value(h, "100 / 10 / 5 * 3 % 4", 2);
        value(h, "2 + 3 * 4", 14);
        value(h, "(2 + 3) * 4", 20);
        value(h, "1 << 2 + 1", 8);
        value(h, "1 << 2 << 1", 8);
        value(h, "256 >> 2 >> 1", 32);
        value(h, "1 < 2 << 1", 1);
        value(h, "5 > 4 > 3", 0);
        value(h, "0 == 1 < 0", 1);
        value(h, "3 & 2 == 2", 1);
        value(h, "4 ^ 6 & 3", 6);
        value(h, "1 | 2 ^ 3", 1);
        value(h, "2 && 4 | 0", 1);
        value(h, "1 || 0 && 0", 1);
        value(h, "(1 || 0) && 0", 0);
        value(h, "-2 * -3", 6);
        value(h, "-2 + 3", 1);
        value(h, "!0 + 1", 2);
        value(h, "~1 & 7", 6);
        value(h, "1 == 1 == 1", 1);
        value(h, "2 == 2 != 2", 1);
    }

    private static void keeping(Harness h) {
        for (int bits = 1; bits <= 16; bits++) {
            h.ended("var v:" + bits + "; { v = 0 - 3; }");
            h.holds("v", -3 & (1 << bits) - 1);
        }
        h.ended("int v; { v = 32768; }");
        h.holds("v", -32768);
        h.ended("int v; { v = 65535 * 2 + 1; }");
        h.holds("v", -1);
        h.ended("array a[2]; { a[0] = 40000; a[1] = -40000; }");
        h.holds("a", 0, -25536);
        h.holds("a", 1, 25536);
        h.ended("int v; proc p(x) { v = x >> 1; } { p(65535); }");
        h.holds("v", -1);
        h.ended("int v; fun f(x) { return x * 4 + 1; } { v = f(65535) + (f(20000) >> 8); }");
        h.holds("v", -3 + (80001 >> 8));
        // A chan carries all 32 bits, an out the lowest 16.
        h.ended("int v; var w:3; chan c; out o; { par { { c ! 65535 * 3; c ! 13; o ! 40000; } | { c ? v; c ? w; } } }");
        h.holds("v", (short) (65535 * 3));
        h.holds("w", 5);
        h.due("take", h.forge.take(0), -25536);
    }

    private static void subscripts(Harness h) {
        h.ended("array a[4]; array b[1]; int v; { a[5] = 1; a[-1] = 2; a[65535 - 1] = 3; b[77] = 4; v = a[9] + b[3] * 10; }");
        h.holds("a", 1, 1);
        h.holds("a", 3, 2);
        h.holds("a", 2, 3);
        h.holds("b", 0, 4);
        h.holds("v", 41);
        h.ended("array a[64]; array b[64]; { a[63] = 1; b[0] = 2; a[b[64]] = 3; }");
        h.holds("a", 63, 1);
        h.holds("a", 2, 3);
        h.holds("a", 0, 0);
        h.holds("b", 0, 2);
        h.ended("array a[4]; chan c; { par { { c ! 7; c ! 8; } | { c ? a[1 + 1]; c ? a[a[2]]; } } }");
        h.holds("a", 2, 7);
        h.holds("a", 3, 8);
    }

    private static void flow(Harness h) {
        h.ended("int v; int w; { while (v < 10) { v = v + 1; w = w + v; } }");
        h.holds("v", 10);
        h.holds("w", 55);
        h.ended("int v; { repeat 7 v = v + 2; repeat 0 v = 99; }");
        h.holds("v", 14);
        h.ended("int v; { if (v) v = 5; else v = 6; if (v) v = v * 2; if (v - 12) v = 0; else skip; }");
        h.holds("v", 12);
        h.ended("int v; { if (1) if (0) v = 1; else v = 2; }");
        h.holds("v", 2);
        h.ended("int v; { repeat 3 repeat 4 v = v + 1; }");
        h.holds("v", 12);
        h.ended("int u; int v; int w; { par { u = 1; | { v = 2; v = v + 3; } | repeat 4 w = w + 1; } u = u + v + w; }");
        h.holds("u", 10);
    }

    private static void calls(Harness h) {
        h.ended("int v; fun add(a, b) {return a + b;} { v = add(add(1, 2), add(3, add(4, 5))); }");
        h.holds("v", 15);
        h.ended("int v; fun fac(n) { int r; r = 1; while (n > 1) { r = r * n; n = n - 1; } return r; } { v = fac(7); }");
        h.holds("v", 5040);
        // Ints in a routine are what they were; parameters are not.
        h.ended("int v; proc p(x) { int n; n = n + x; v = n; } { p(3); p(4); }");
        h.holds("v", 7);
        h.ended("int v; fun f() { int n; n = n + 1; return n; } { v = f() * 100 + f() * 10 + f(); }");
        h.holds("v", 123);
        h.ended("int v; int w; { repeat 3 { int n; n = n + 1; v = n; } }");
        h.holds("v", 3);
        h.ended("int v; fun f(a, b, c, d) {return a * 1000 + b * 100 + c * 10 + d;} { v = f(1, 2, 3, 4); }");
        h.holds("v", 1234);
        // All E are done before they become the parameters.
        h.ended("int v; fun f(a, b) {return a * 10 + b;} { v = f(f(1, 2), f(3, 4)); }");
        h.holds("v", 154);
        h.ended("int v; proc p() { v = v + 1; } proc q() { p(); p(); } { q(); q(); p(); }");
        h.holds("v", 5);
    }

    private static void channels(Harness h) {
        h.ended("int v; chan c; chan d; { par { repeat 5 c ! 3; | repeat 5 { int x; c ? x; d ! x * 2; } "
                + "| repeat 5 { int y; d ? y; v = v + y; } } }");
        h.holds("v", 30);
        h.ended("int v; chan c; { par { c ? v; | par { c ! 4; | skip; } } }");
        h.holds("v", 4);
        h.ended("int v; chan c; proc s(x) { c ! x; c ! x + 1; } proc r() { int y; c ? y; c ? v; v = v * 10 + y; } "
                + "{ par { s(1); | r(); } par { r(); | s(3); } }");
        h.holds("v", 43);
        h.good("int v; chan c; { par { { c ! 1; c ! 2; v = 5; } | { int x; c ? x; } } }");
        h.due("run", h.forge.run(20000), 2);
        h.holds("v", 0);
        h.good("chan c; int v; { c ! 1; v = 1; }");
        h.due("run of a send nobody receives", h.forge.run(5), 2);
        h.due("run again", h.forge.run(5), 2);
        h.counts(7, 0);
        h.holds("v", 0);
    }

    private static void waits(Harness h) {
        h.good("in i; out o; int n; { while (1) { int x; i ? x; n = n + 1; o ! x * x; } }");
        h.due("run", h.forge.run(20000), 2);
        h.counts(7, 4);
        h.due("give", h.forge.give(0, 5), 1);
        h.due("give", h.forge.give(0, -6), 2);
        h.due("run", h.forge.run(20000), 2);
        // For each value: the assignment with its 3 E, the send with its 3 E; then while's E, block and receive.
        h.counts(7, 2 * (4 + 4 + 3));
        h.due("take", h.forge.take(0), 25);
        h.due("take", h.forge.take(0), 36);
        h.due("take", h.forge.take(0), Harness.NO_VALUE);
        h.due("run with nothing new", h.forge.run(1), 2);
        h.counts(7, 0);
        h.holds("n", 2);
        full(h);
    }

    private static void full(Harness h) {
        h.good("out o; int n; { repeat 42 { n = n + 1; o ! n; } }");
        h.due("run", h.forge.run(20000), 2);
        h.counts(9, 40);
        h.holds("n", 41);
        h.due("run while it is full", h.forge.run(20000), 2);
        h.due("take", h.forge.take(0), 1);
        h.due("run with room for one", h.forge.run(20000), 2);
        h.holds("n", 42);
        h.counts(9, 40);
        h.due("take", h.forge.take(0), 2);
        h.due("run", h.forge.run(20000), 1);
        h.counts(7, 0);
        h.counts(9, 40);
        for (int i = 3; i <= 42; i++) {
            h.due("take", h.forge.take(0), i);
        }
        h.due("take", h.forge.take(0), Harness.NO_VALUE);
    }

    private static void limits(Harness h) {
        h.good("int v; { v = 1; v = v + 1; }");
        h.due("run of 0", h.forge.run(0), HandshakeForge.REFUSED);
        h.due("run of -1", h.forge.run(-1), HandshakeForge.REFUSED);
        h.due("run of 20001", h.forge.run(20001), HandshakeForge.REFUSED);
        h.due("run of the least", h.forge.run(Integer.MIN_VALUE), HandshakeForge.REFUSED);
        h.counts(8, 0);
        h.due("run of one step less", h.forge.run(6), 3);
        h.due("run when lost", h.forge.run(20000), HandshakeForge.REFUSED);
        h.counts(8, 3);
        h.forge.begin();
        h.due("run of just enough", h.forge.run(7), 1);
        h.counts(7, 7);
        h.due("run when ended", h.forge.run(1), 1);
        h.counts(7, 0);
        h.due("run of 0 when ended", h.forge.run(0), HandshakeForge.REFUSED);
        h.good("{ while (1) skip; }");
        h.due("run without an end", h.forge.run(20000), 3);
        h.good("{ repeat 19999 skip; }");
        h.due("run of 20000 steps", h.forge.run(20000), 1);
        h.counts(7, 20000);
        h.good("{ repeat 20000 skip; }");
        h.due("run of 20001 steps", h.forge.run(20000), 3);
        // Only the steps of this run count.
        h.good("in i; { repeat 9 { int x; i ? x; skip; } }");
        h.due("run", h.forge.run(3), 2);
        for (int n = 1; n < 9; n++) {
            h.forge.give(0, n);
            h.due("run", h.forge.run(3), 2);
            h.counts(7, 3);
        }
        h.forge.give(0, 1);
        h.due("run to the end", h.forge.run(1), 1);
        h.counts(7, 1);
    }
}
