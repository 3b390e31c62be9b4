/** Promises 7 and 8: give and take, and the 40 values that an in or out can hold. */
public final class QueueTest {
    private static final int NONE = HandshakeForge.NONE;
    private static final int FULL = HandshakeForge.FULL;

    public static void main(String[] args) {
        Harness h = new Harness("QueueTest");
        noSuch(h);
        numbered(h);
        fullIn(h);
        inEachState(h);
        bits(h);
        order(h);
        take(h);
        fullOut(h);
        roomInOut(h);
        fullBesideOthers(h);
        h.close();
    }

    /** NONE if there is no such in, 2^40 if there is no such out. */
    private static void noSuch(Harness h) {
        for (int n = 0; n <= 4; n++) {
            h.good(Harness.many("in i#;", n) + Harness.many("out o#;", 4 - n) + "{}");
            for (int k : new int[] {Integer.MIN_VALUE, -1, 0, 1, 2, 3, 4, 5, 8, 12, Integer.MAX_VALUE}) {
                h.due("give to " + k + " of " + n, h.forge.give(k, 1), k >= 0 && k < n ? 1 : NONE);
                h.due("take from " + k + " of " + (4 - n), h.forge.take(k), Harness.NO_VALUE);
            }
        }
        h.ended("out a; out b; { a ! 1; b ! 2; }");
        h.due("take from -1", h.forge.take(-1), Harness.NO_VALUE);
        h.due("take from 2", h.forge.take(2), Harness.NO_VALUE);
        h.due("take from 1", h.forge.take(1), 2);
        h.due("take from 0", h.forge.take(0), 1);
    }

    /** Ins and outs are numbered from 0 as they stand. */
    private static void numbered(Harness h) {
        h.good("out q; in d; int v; in c; out r; array a[4]; in b; chan m; out s; in e; out t; "
                + "{ d ? a[0]; c ? a[1]; b ? a[2]; e ? a[3]; q ! 20; r ! 21; s ! 22; t ! 23; }");
        for (int k = 3; k >= 0; k--) {
            h.due("give", h.forge.give(k, 10 + k), 1);
        }
        h.due("run", h.forge.run(100), 1);
        for (int k = 3; k >= 0; k--) {
            h.holds("a", k, 10 + k);
            h.counts(9 + k, 1);
            h.due("take", h.forge.take(k), 20 + k);
            h.counts(9 + k, 0);
        }
    }

    /** How many it holds; FULL with 40. */
    private static void fullIn(Harness h) {
        h.fresh();
        h.good("in i; in j; int v; { int n; i ? v; while (1) { j ? n; while (n) { i ? v; n = n - 1; } } }");
        for (int n = 1; n <= 40; n++) {
            h.due("give", h.forge.give(0, n), n);
        }
        h.due("give to a full one", h.forge.give(0, 41), FULL);
        h.due("give to a full one again", h.forge.give(0, 42), FULL);
        h.due("run", h.forge.run(100), 2);
        h.holds("v", 1);
        h.due("give with room for one", h.forge.give(0, 43), 40);
        h.due("give to a full one", h.forge.give(0, 44), FULL);
        h.due("give to the other", h.forge.give(1, 2), 1);
        h.due("run", h.forge.run(100), 2);
        h.due("give with room for two", h.forge.give(0, 45), 39);
        h.due("give with room for one", h.forge.give(0, 46), 40);
        h.due("give to a full one", h.forge.give(0, 47), FULL);
        int[] due = {40, 43, 45, 46};
        h.due("give", h.forge.give(1, 37), 1);
        for (int n = 0; n < 4; n++) {
            h.due("run", h.forge.run(1000), 2);
            h.holds("v", due[n]);
            h.due("give", h.forge.give(1, 1), 1);
        }
        h.due("run", h.forge.run(1000), 2);
        h.holds("v", 46);
        h.due("give to an empty one", h.forge.give(0, 7), 1);
        h.due("run", h.forge.run(1000), 2);
        h.holds("v", 7);
    }

    /** READY, when it WAITS and ENDED; NONE when it is LOST. */
    private static void inEachState(Harness h) {
        h.good("in i; out o; { int x; o ! 1; i ? x; while (x) skip; }");
        h.due("give when ready", h.forge.give(0, 0), 1);
        h.due("take when ready", h.forge.take(0), Harness.NO_VALUE);
        h.due("run", h.forge.run(100), 1);
        h.due("give when ended", h.forge.give(0, 0), 1);
        h.due("give when ended", h.forge.give(0, 0), 2);
        h.due("take when ended", h.forge.take(0), 1);
        h.forge.begin();
        h.due("give behind begin", h.forge.give(0, 1), 1);
        h.forge.begin();
        h.due("run", h.forge.run(100), 2);
        h.due("give when it waits", h.forge.give(0, 1), 1);
        h.due("run", h.forge.run(100), 3);
        h.due("give when lost", h.forge.give(0, 1), NONE);
        h.due("give to none when lost", h.forge.give(1, 1), NONE);
        h.due("take when lost", h.forge.take(0), Harness.NO_VALUE);
        h.forge.begin();
        h.due("give behind begin", h.forge.give(0, 1), 1);
        h.due("take behind begin", h.forge.take(0), Harness.NO_VALUE);
    }

    /** Its lowest 16 bits, with sign. */
    private static void bits(Harness h) {
        int[] values = {0, 1, -1, 32766, 32767, 32768, 65535, 65536, 65537, -32767, -32768, -32769, -65536,
            Integer.MAX_VALUE, Integer.MIN_VALUE};
        for (int v : values) {
            h.good("in i; out o; int hi; { int x; i ? x; o ! x; hi = x >> 8; o ! x + (1 << 16); o ! x * 65535; }");
            h.forge.give(0, v);
            h.due("run", h.forge.run(100), 1);
            h.due("take of " + v, h.forge.take(0), (short) v);
            h.due("take of " + v, h.forge.take(0), (short) v);
            h.due("take of " + v, h.forge.take(0), (short) -v);
            h.holds("hi", (short) v >> 8);
        }
    }

    /** First in, first out, also when the row goes round. */
    private static void order(Harness h) {
        h.fresh();
        h.good("in i; out o; { int x; while (1) { i ? x; o ! x; } }");
        int given = 0;
        int taken = 0;
        for (int round = 0; round < 4; round++) {
            for (int n = 0; n < 17 + round * 3; n++) {
                h.forge.give(0, given++);
            }
            h.due("run", h.forge.run(20000), 2);
            for (int n = 0; n < 13 + round * 3; n++) {
                h.due("take", h.forge.take(0), taken++);
            }
        }
        while (taken < given) {
            h.due("take", h.forge.take(0), taken++);
        }
        h.due("take", h.forge.take(0), Harness.NO_VALUE);
    }

    /** The first value goes: it; 2^40 if there is none. */
    private static void take(Harness h) {
        h.fresh();
        h.good("out o; out p; { o ! 1; p ! 65535; o ! 65535 * 65535; p ! 0; }");
        h.due("take before", h.forge.take(0), Harness.NO_VALUE);
        h.due("run", h.forge.run(20), 1);
        h.due("take", h.forge.take(1), -1);
        h.due("take", h.forge.take(0), 1);
        h.due("take", h.forge.take(0), 1);
        h.due("take", h.forge.take(0), 1L << 40);
        h.due("take", h.forge.take(1), 0);
        h.due("take", h.forge.take(1), 1L << 40);
    }

    /** A send to an out waits till that holds less than 40 values. */
    private static void fullOut(Harness h) {
        for (int n = 38; n <= 42; n++) {
            h.fresh();
            h.good("out o; int n; { repeat " + n + " { n = n + 1; o ! n; } }");
            h.due("run of " + n + " sends", h.forge.run(20000), n <= 40 ? 1 : 2);
            h.counts(9, Math.min(n, 40));
            h.holds("n", Math.min(n, 41));
            h.due("run again", h.forge.run(20000), n <= 40 ? 1 : 2);
            h.counts(7, 0);
            h.counts(9, Math.min(n, 40));
            for (int i = 1; i <= Math.min(n, 40); i++) {
                h.due("take", h.forge.take(0), i);
            }
            h.due("take", h.forge.take(0), Harness.NO_VALUE);
            h.due("run with room", h.forge.run(20000), 1);
            h.counts(9, Math.max(n - 40, 0));
            for (int i = 41; i <= n; i++) {
                h.due("take", h.forge.take(0), i);
            }
            h.due("take", h.forge.take(0), Harness.NO_VALUE);
        }
    }

    /** Room for one lets one go, and takes no step of its own. */
    private static void roomInOut(Harness h) {
        h.fresh();
        h.good("out o; int n; { repeat 42 { n = n + 1; o ! n; } }");
        h.due("run", h.forge.run(20000), 2);
        h.due("take", h.forge.take(0), 1);
        h.counts(9, 39);
        h.due("run with room for one", h.forge.run(20000), 2);
        h.holds("n", 42);
        h.counts(9, 40);
        h.due("take", h.forge.take(0), 2);
        h.due("run with as much as is due", h.forge.run(1), 1);
        h.counts(7, 0);
        h.counts(9, 40);
        for (int i = 3; i <= 42; i++) {
            h.due("take", h.forge.take(0), i);
        }
        h.due("take", h.forge.take(0), Harness.NO_VALUE);
    }

    /** One out that is full holds up its own branch alone. */
    private static void fullBesideOthers(Harness h) {
        h.fresh();
        h.good("out o; out p; int v; { par { repeat 41 o ! 1; | { repeat 40 p ! 2; v = 1; } } v = 2; }");
        h.due("run", h.forge.run(20000), 2);
        h.counts(9, 40);
        h.counts(10, 40);
        h.holds("v", 1);
        h.due("take from the other", h.forge.take(1), 2);
        h.due("run", h.forge.run(20000), 2);
        h.holds("v", 1);
        h.due("take", h.forge.take(0), 1);
        h.due("run", h.forge.run(20000), 1);
        h.holds("v", 2);
        h.counts(9, 40);
        h.counts(10, 39);
    }
}
