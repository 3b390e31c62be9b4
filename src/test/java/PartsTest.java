/** Promises 4, 6 and 10: how many parts a text becomes, and how many steps they take. */
public final class PartsTest {
    public static void main(String[] args) {
        Harness h = new Harness("PartsTest");
        blocks(h);
        statements(h);
        routines(h);
        h.close();
    }

    private static void parts(Harness h, String text, int parts, int steps) {
        h.ended(text);
        h.due("parts of '" + text + "'", h.forge.count(0), parts);
        h.due("steps of '" + text + "'", h.forge.count(7), steps);
    }

    private static void blocks(Harness h) {
        parts(h, "{}", 1, 1);
        parts(h, "{{}}", 1, 1);
        parts(h, "{{{{}}}}", 1, 1);
        parts(h, "{skip;}", 1, 1);
        parts(h, "{{skip;}}", 1, 1);
        parts(h, "{{}{}}", 3, 3);
        parts(h, "{skip; skip;}", 3, 3);
        parts(h, "{{skip; skip;}}", 3, 3);
        parts(h, "{{skip; skip;} {skip; {skip; skip;}}}", 9, 9);
        parts(h, "{int x; int y;}", 1, 1);
        parts(h, "{int x; x = 1;}", 2, 2);
    }

    private static void statements(Harness h) {
        String head = "int v; array a[4]; ";
        parts(h, head + "{ v = 1; }", 2, 2);
        parts(h, head + "{ v = ((1)); }", 2, 2);
        parts(h, head + "{ v = -(v + 2); }", 5, 5);
        parts(h, head + "{ v = a[1]; }", 3, 3);
        parts(h, head + "{ a[v] = 1; }", 3, 3);
        parts(h, head + "{ a[a[0] + 1] = ~v; }", 7, 7);
        parts(h, head + "{ v = 0 && 1 || 2; }", 6, 6);
        parts(h, head + "{ if (v) skip; }", 3, 2);
        parts(h, head + "{ if (v) skip; else v = 1; }", 5, 4);
        parts(h, head + "{ if (!v) skip; else v = 1; }", 6, 4);
        parts(h, head + "{ while (v < 3) v = v + 1; }", 8, 1 + 4 * 3 + 3 * 4);
        parts(h, head + "{ repeat 5 skip; }", 2, 6);
        parts(h, head + "{ repeat 0 skip; }", 2, 1);
        parts(h, head + "{ repeat 2 {} }", 2, 3);
        parts(h, head + "{ repeat 2 {skip; skip;} }", 4, 7);
        parts(h, head + "{ par { skip; | {} | v = 1; } }", 5, 5);
        parts(h, "chan c; int v; array a[2]; { par { c ! 1 + 2; | c ? a[v]; } }", 7, 7);
        parts(h, "out o; { o ! 3; }", 2, 2);
    }

    private static void routines(Harness h) {
        parts(h, "proc p() {} {}", 2, 1);
        parts(h, "proc p() {} { p(); }", 2, 2);
        parts(h, "proc p() {} { p(); p(); }", 4, 5);
        parts(h, "proc p(x) { x = 1; } { p(1 + 2); }", 6, 6);
        parts(h, "proc p(x) { skip; skip; } { p(1); p(2); }", 3 + 5, 5 + 2 * 3);
        parts(h, "int v; fun f(x) {return x * 2;} { v = f(4); }", 3 + 3, 6);
        parts(h, "int v; fun f() {return 1;} { v = f() + f(); }", 1 + 4, 6);
        parts(h, "int v; fun f(x) { x = x + 1; return x; } { v = f(1); }", 4 + 1 + 3, 8);
        parts(h, "int v; fun f(x) { skip; skip; return x; } { v = f(1); }", 3 + 3, 6);
    }
}
