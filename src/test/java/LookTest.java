/** Promise 9: look. */
public final class LookTest {
    public static void main(String[] args) {
        Harness h = new Harness("LookTest");
        noCircuit(h);
        outsideAlone(h);
        outsideBesideInside(h);
        places(h);
        notNames(h);
        afterFault(h);
        lost(h);
        h.close();
    }

    private static void noCircuit(Harness h) {
        for (int k : new int[] {0, 1, -1, Integer.MIN_VALUE, Integer.MAX_VALUE}) {
            h.holds("v", k, 1L << 40);
            h.holds("", k, 1L << 40);
        }
    }

    /** What is declared outside, variables and arrays alone; 2^40 for others. */
    private static void outsideAlone(Harness h) {
        h.good("int v; var w:4; array a[2]; chan c; in i; out o; proc p(x) { int y; y = x; } "
                + "fun f(z) { int t; t = z; return t; } { int u; u = f(5); v = -u; w = 19; a[1] = 6; p(8); }");
        h.holds("v", 0);
        h.holds("a", 1, 0);
        h.due("run", h.forge.run(100), 1);
        h.holds("v", -5);
        h.holds("w", 3);
        h.holds("a", 1, 6);
        for (String name : new String[] {"c", "i", "o", "p", "f", "x", "y", "z", "t", "u", "q", "int", "vv", "va", ""}) {
            h.holds(name, Harness.NO_VALUE);
        }
    }

    private static void outsideBesideInside(Harness h) {
        h.ended("int x; proc p(x) { int v; x = 5; v = x; } { int x; x = 7; p(1); }");
        h.holds("x", 0);
        h.holds("v", Harness.NO_VALUE);
        h.ended("proc p(x) { x = 5; } int x; { p(1); x = 3; { int x; x = 4; } }");
        h.holds("x", 3);
        h.ended("int first; int b; int c; int last; { first = 1; last = 4; }");
        h.holds("first", 1);
        h.holds("b", 0);
        h.holds("last", 4);
    }

    /** At place k, modulo its size; of a variable any. */
    private static void places(Harness h) {
        for (int size = 1; size <= 64; size *= 2) {
            h.ended("array a[" + size + "]; int v; { int n; while (n < " + size + ") { a[n] = n * n - 9; n = n + 1; } v = 6; }");
            int[] ks = {0, 1, -1, size - 1, size, size + 1, -size, -size - 1, 1 - size, 63, 64, 65, -64, 2 * size,
                65535, 65536, -65536, -65537, Integer.MAX_VALUE, Integer.MIN_VALUE, Integer.MIN_VALUE + 1};
            for (int k : ks) {
                int place = Math.floorMod(k, size);
                h.holds("a", k, place * place - 9);
            }
            for (int k : new int[] {0, 1, -1, 64, Integer.MAX_VALUE, Integer.MIN_VALUE}) {
                h.holds("v", k, 6);
            }
        }
    }

    /** The TAPE is the name, no more and no less. */
    private static void notNames(Harness h) {
        h.ended("int a; int abcdefgh; { a = 1; abcdefgh = 2; }");
        h.holds("a", 1);
        h.holds("abcdefgh", 2);
        for (String text : new String[] {"\0a", "a\0", " a", "a ", "a\n", "A", "aa", "abcdefghi", "xabcdefgh", "abcdefg",
            "a;", "\u00e1", "1a", "\0\0\0\0\0\0\0\0a", "a".repeat(2000), "abcdefgh".repeat(2), "\0", " ", "a b"}) {
            h.holds(text, Harness.NO_VALUE);
        }
        // The tape is empty behind each look.
        h.due("look again", h.forge.look(0), Harness.NO_VALUE);
        h.forge.feed('a' << 24, 0, 0, 0, 0);
        h.due("look at a with zeros behind it", h.forge.look(0), Harness.NO_VALUE);
        h.holds("a", 1);
    }

    /** A text with a fault declares nothing. */
    private static void afterFault(Harness h) {
        h.fresh();
        h.fault("int v; { @");
        h.holds("v", Harness.NO_VALUE);
        h.ended("int v; { v = 1; }");
        h.fault("int w; array v[4]; { w = 2; @");
        h.holds("v", 1);
        h.holds("w", Harness.NO_VALUE);
        h.ended("int w; { w = 3; }");
        h.holds("v", Harness.NO_VALUE);
        h.holds("w", 3);
    }

    private static void lost(Harness h) {
        h.good("int v; array a[2]; in i; { v = 3; a[0] = 4; i ? v; while (1) skip; }");
        h.due("run", h.forge.run(100), 2);
        h.holds("v", 3);
        h.holds("a", 4);
        h.forge.give(0, 4);
        h.due("run", h.forge.run(100), 3);
        h.holds("v", Harness.NO_VALUE);
        h.holds("a", Harness.NO_VALUE);
        h.holds("nosuch", Harness.NO_VALUE);
        h.forge.begin();
        h.holds("v", 0);
        h.holds("a", 0);
    }
}
