/** Promise 4: what branches of a par may share. */
public final class ParRuleTest {
    private static final String HEAD = "int v; int w; array a[4]; array b[4]; chan c; chan d; in i; out o; "
            + "proc p(x) { v = x; } proc q() { p(1); } proc s() { c ! v; } proc r() { int y; c ? y; } "
            + "fun f(x) {return x + w;} fun g(x) {return f(x);} ";

    public static void main(String[] args) {
        Harness h = new Harness("ParRuleTest");
        fine(h);
        variables(h);
        lines(h);
        calls(h);
        order(h);
        h.close();
    }

    private static void good(Harness h, String branches) {
        h.good(HEAD + "{ par {" + branches + "} }");
    }

    private static void bad(Harness h, String branches) {
        h.fault(HEAD + "{ @par {" + branches + "} }");
    }

    private static void fine(Harness h) {
        good(h, "v = 1; | w = 2;");
        good(h, "v = w + 1; | { int x; x = w; }");
        good(h, "v = a[1]; | w = a[2];");
        good(h, "a[1] = v; | b[1] = v;");
        good(h, "c ! 1; | c ? v;");
        good(h, "{ c ! 1; d ? v; } | { c ? w; d ! w; }");
        good(h, "{ c ! 1; c ! 2; } | { c ? v; c ? v; }");
        good(h, "{ c ! 1; c ? v; } | skip;");
        good(h, "i ? v; | o ! w;");
        good(h, "p(1); | w = 1;");
        good(h, "v = f(1); | skip;");
        good(h, "{ int x; x = 1; } | { int x; x = 2; }");
        good(h, "{ v = 1; v = v + 1; } | skip; | w = 2;");
    }

    private static void variables(Harness h) {
        bad(h, "v = 1; | v = 2;");
        bad(h, "v = 1; | w = v;");
        bad(h, "w = v; | v = 1;");
        bad(h, "skip; | v = 1; | skip; | a[v] = 1;");
        bad(h, "a[1] = 1; | a[2] = 1;");
        bad(h, "a[1] = 1; | v = a[2];");
        bad(h, "i ? v; | w = v;");
        bad(h, "c ? v; | c ! v;");
        bad(h, "c ? a[0]; | c ! a[1];");
        bad(h, "while (v) skip; | repeat 3 { if (w) { v = 1; } }");
        h.fault("{ int x; @par { x = 1; | { int y; y = x; } } }");
    }

    private static void lines(Harness h) {
        bad(h, "c ! 1; | c ! 2;");
        bad(h, "c ? v; | c ? w;");
        bad(h, "i ? v; | i ? w;");
        bad(h, "o ! 1; | o ! 2;");
        bad(h, "{ c ! 1; c ? v; } | c ! 2;");
        bad(h, "o ! 1; | skip; | { skip; if (v) o ! 2; }");
        h.good("in i; in j; out o; out p; { par { { int x; i ? x; o ! x; } | { int y; j ? y; p ! y; } } }");
    }

    private static void calls(Harness h) {
        bad(h, "p(1); | p(2);");
        bad(h, "p(1); | w = v;");
        bad(h, "p(1); | v = 1;");
        bad(h, "q(); | p(1);");
        bad(h, "q(); | q();");
        bad(h, "v = f(1); | { int x; x = f(2); }");
        bad(h, "v = g(1); | { int x; x = f(2); }");
        bad(h, "v = f(1); | w = 2;");
        bad(h, "v = g(1); | w = 2;");
        bad(h, "s(); | c ! 1;");
        bad(h, "r(); | c ? v;");
        bad(h, "s(); | v = 1;");
        good(h, "s(); | r();");
        good(h, "s(); | w = g(v);");
        h.fault("proc p(x) { @par { x = 1; | skip; | x = 2; } } {}");
        h.good("int v; proc p(x) { par { x = 1; | v = 2; } } { p(1); p(2); }");
        // Parameters are used and not assigned to in the proc itself.
        h.good("int v; int w; proc p(x) { par { v = x; | w = x; } } { p(1); }");
    }

    /** The first word par of those at fault counts, and only if nothing else is. */
    private static void order(Harness h) {
        h.fault("int v; { par { skip; | skip; } @par { v = 1; | v = 2; } par { v = 1; | v = 2; } }");
        h.fault("int v; { @par { par { v = 1; | v = 2; } | v = 3; } }");
        h.fault("int v; { par { @par { v = 1; | v = 2; } | skip; } }");
        h.fault("int v; { par { skip; | @par { v = 1; | v = 2; } } par { v = 1; | v = 2; } }");
        h.fault("int v; { par { v = 1; | v = 2; } v = @nosuch; }");
        h.fault("int v; { par { v = 1; | v = 2; } @");
        h.fault("int v; proc p() { @par { v = 1; | v = 2; } } { par { v = 1; | v = 2; } }");
        h.good("int v; { par { v = 1; | skip; } par { skip; | v = 2; } }");
        h.good("int v; { v = 1; par { v = v + 1; | skip; } v = v + 1; }");
        // Nothing of a text at fault is left over for the next one.
        h.good("int v; { par { v = 1; | skip; } }");
    }
}
