/** Promise 9: look. */
public final class LookTest {
    public static void main(String[] args) {
        Harness h = new Harness("LookTest");
        names(h);
        places(h);
        notNames(h);
        lost(h);
        h.close();
    }

    private static void names(Harness h) {
        h.holds("v", Harness.NO_VALUE);
        h.good("int v; var w:4; array a[2]; chan c; in i; out o; proc p(x) { int y; y = x; } "
                + "fun f(z) {return z;} { int u; u = f(5); v = -u; w = 19; a[1] = 6; p(8); }");
        h.holds("v", 0);
        h.holds("a", 1, 0);
        h.due("run", h.forge.run(100), 1);
        h.holds("v", -5);
        h.holds("w", 3);
        h.holds("a", 1, 6);
        for (String name : new String[] {"c", "i", "o", "p", "f", "x", "y", "z", "u", "q", "int", "vv", "va", ""}) {
            h.holds(name, Harness.NO_VALUE);
        }
        h.ended("int x; proc p(x) { int v; x = 5; v = x; } { int x; x = 7; p(1); }");
        h.holds("x", 0);
        h.holds("v", Harness.NO_VALUE);
    }

    private static void places(Harness h) {
        h.ended("array a[8]; array b[1]; int v; { int n; while (n < 8) { a[n] = n * n - 9; n = n + 1; } b[0] = 5; v = 6; }");
        for (int k = -20; k <= 20; k++) {
            int place = Math.floorMod(k, 8);
            h.holds("a", k, place * place - 9);
            h.holds("b", k, 5);
            h.holds("v", k, 6);
        }
        h.holds("a", Integer.MIN_VALUE, -9);
        h.holds("a", Integer.MAX_VALUE, 40);
        h.holds("v", Integer.MIN_VALUE, 6);
        h.holds("v", Integer.MAX_VALUE, 6);
    }

    private static void notNames(Harness h) {
        h.ended("int a; int abcdefgh; { a = 1; abcdefgh = 2; }");
        h.holds("a", 1);
        h.holds("abcdefgh", 2);
        for (String text : new String[] {"\0a", "a\0", " a", "a ", "a\n", "A", "aa", "abcdefghi", "xabcdefgh", "abcdefg",
            "a;", "\u00e1", "1a", "\0\0\0\0\0\0\0\0a", "a".repeat(2000), "\0", " "}) {
            h.holds(text, Harness.NO_VALUE);
        }
        // The tape is empty behind each look.
        h.due("look again", h.forge.look(0), Harness.NO_VALUE);
        h.forge.feed('a' << 24, 0, 0, 0, 0);
        h.due("look at a with zeros behind it", h.forge.look(0), Harness.NO_VALUE);
        h.holds("a", 1);
    }

    private static void lost(Harness h) {
        h.good("int v; in i; { v = 3; i ? v; while (1) skip; }");
        h.due("run", h.forge.run(100), 2);
        h.holds("v", 3);
        h.forge.give(0, 4);
        h.due("run", h.forge.run(100), 3);
        h.holds("v", Harness.NO_VALUE);
        h.forge.begin();
        h.holds("v", 0);
    }
}
