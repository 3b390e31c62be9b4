/** Promise 4: what branches of a par may share. */
public final class ParRuleTest {
    private static final String HEAD = "int v; int w; array a[4]; array b[4]; chan c; chan d; in i; out o; "
            + "proc p(x) { v = x; } proc q() { p(1); } proc s() { c ! v; } proc r() { int y; c ? y; } "
            + "fun f(x) {return x + w;} fun g(x) {return f(x);} ";

    public static void main(String[] args) {
        Harness h = new Harness("ParRuleTest");
        fine(h);
        variables(h);
        kept(h);
        lines(h);
        calls(h);
        beside(h);
        inside(h);
        eachOfTheMost(h);
        h.close();
    }

    private static void good(Harness h, String branches) {
        h.good(HEAD + "{ par {" + branches + "} }");
    }

    private static void bad(Harness h, String branches) {
        h.fault(HEAD + "{ @par {" + branches + "} }");
    }

    private static void fine(Harness h) {
        good(h, "v = 1; | w = 2;");
        good(h, "v = w + 1; | { int x; x = w; }");
        good(h, "v = a[1]; | w = a[2];");
        good(h, "a[1] = v; | b[1] = v;");
        good(h, "c ! 1; | c ? v;");
        good(h, "{ c ! 1; d ? v; } | { c ? w; d ! w; }");
        good(h, "{ c ! 1; c ! 2; } | { c ? v; c ? v; }");
        good(h, "{ c ! 1; c ? v; } | skip;");
        good(h, "i ? v; | o ! w;");
        good(h, "p(1); | w = 1;");
        good(h, "v = f(1); | skip;");
        good(h, "{ int x; x = 1; } | { int x; x = 2; }");
        good(h, "{ v = 1; v = v + 1; } | skip; | w = 2;");
    }

    private static void variables(Harness h) {
        bad(h, "v = 1; | v = 2;");
        bad(h, "v = 1; | w = v;");
        bad(h, "w = v; | v = 1;");
        bad(h, "skip; | v = 1; | skip; | a[v] = 1;");
        bad(h, "a[1] = 1; | a[2] = 1;");
        bad(h, "a[1] = 1; | v = a[2];");
        bad(h, "i ? v; | w = v;");
        bad(h, "c ? v; | c ! v;");
        bad(h, "c ? a[0]; | c ! a[1];");
        bad(h, "while (v) skip; | repeat 3 { if (w) { v = 1; } }");
        h.fault("{ int x; @par { x = 1; | { int y; y = x; } } }");
    }

    /** What a branch did first is not forgotten for what it did last, nor the first branch for the last. */
    private static void kept(Harness h) {
        bad(h, "v = 1; | v = 2; | skip;");
        bad(h, "v = 1; | skip; | v = 2;");
        bad(h, "w = v; | skip; | v = 2;");
        bad(h, "c ! 1; | skip; | c ! 2;");
        bad(h, "{ v = 1; w = 2; } | v = 3;");
        bad(h, "{ v = 1; a[0] = 2; } | { int x; x = v; }");
        bad(h, "{ int x; x = v; x = w; x = a[0]; } | v = 1;");
        bad(h, "{ int x; x = v; x = a[0]; x = b[1]; } | v = 1;");
        bad(h, "{ int x; x = a[0]; x = b[1]; } | a[0] = 1;");
        bad(h, "{ int x; x = v; x = f(1); } | v = 1;");
        bad(h, "{ w = 1; p(1); } | { int x; x = w; }");
        bad(h, "{ c ! 1; d ! 1; } | c ! 1;");
        bad(h, "{ c ! 1; d ? v; } | c ! 1;");
        bad(h, "{ c ? v; d ! 1; } | c ? w;");
        bad(h, "{ c ? v; d ? v; } | c ? w;");
        bad(h, "{ c ! 1; p(1); } | c ! 2;");
        bad(h, "{ p(1); s(); } | { p(2); }");
        bad(h, "par { v = 1; | skip; } | w = v;");
        bad(h, "{ v = 1; par { skip; | skip; } } | w = v;");
        bad(h, "par { w = v; | skip; } | v = 1;");
        bad(h, "par { c ! 1; | skip; } | c ! 1;");
        // Sends, receives and calls are told apart, and so are their numbers.
        h.good("chan a; chan b; chan c; chan d; in i; out o; int v; int w; int x; int y; int z; { par { { a ! 1; b ? v; } "
                + "| { b ! 2; c ? w; } | { c ! 3; d ? x; } | { d ! 4; a ? y; } | i ? z; | o ! 5; } }");
        h.good("int u; int v; int w; int x; int y; int z; proc a() {} proc b() {} proc c() {} fun f() {return 1;} "
                + "fun g() {return 1;} fun k() {return 1;} "
                + "{ par { a(); | b(); | c(); | u = f(); | v = g(); | w = k(); } }");
        h.good("chan a; chan b; chan c; chan d; chan e; chan f; chan g; chan k; in i; in j; in l; in m; out o; out p; "
                + "out q; out r; int u; int v; int w; int x; "
                + "{ par { { a ! 1; b ! 1; c ! 1; d ! 1; e ! 1; f ! 1; g ! 1; k ! 1; o ! 1; } "
                + "| { a ? u; b ? u; c ? u; d ? u; e ? u; f ? u; g ? u; k ? u; i ? u; } "
                + "| { j ? v; p ! 1; } | { l ? w; q ! 1; } | { m ? x; r ! 1; } } }");
    }

    private static void lines(Harness h) {
        bad(h, "c ! 1; | c ! 2;");
        bad(h, "c ? v; | c ? w;");
        bad(h, "i ? v; | i ? w;");
        bad(h, "o ! 1; | o ! 2;");
        bad(h, "{ c ! 1; c ? v; } | c ! 2;");
        bad(h, "o ! 1; | skip; | { skip; if (v) o ! 2; }");
        h.good("in i; in j; out o; out p; { par { { int x; i ? x; o ! x; } | { int y; j ? y; p ! y; } } }");
    }

    private static void calls(Harness h) {
        bad(h, "p(1); | p(2);");
        bad(h, "p(1); | w = v;");
        bad(h, "p(1); | v = 1;");
        bad(h, "q(); | p(1);");
        bad(h, "q(); | q();");
        bad(h, "v = f(1); | { int x; x = f(2); }");
        bad(h, "v = g(1); | { int x; x = f(2); }");
        bad(h, "v = f(1); | w = 2;");
        bad(h, "v = g(1); | w = 2;");
        bad(h, "s(); | c ! 1;");
        bad(h, "r(); | c ? v;");
        bad(h, "s(); | v = 1;");
        good(h, "s(); | r();");
        good(h, "s(); | w = g(v);");
        h.fault("proc p(x) { @par { x = 1; | skip; | x = 2; } } {}");
        h.good("int v; proc p(x) { par { x = 1; | v = 2; } } { p(1); p(2); }");
        // Parameters are used and not assigned to in the proc itself.
        h.good("int v; int w; proc p(x) { par { v = x; | w = x; } } { p(1); }");
    }

    /** With as many of each kind as there can be, each is told from all others. */
    private static void eachOfTheMost(Harness h) {
        String head = Harness.many("int v#;", 24) + Harness.many("array a#[2];", 6) + Harness.many("chan c#;", 8) + Harness.many("in i#;", 4)
                + Harness.many("out o#;", 4) + Harness.many("proc p#(){}", 12);
        h.good(head + "{ par { { " + Harness.many("v# = 1;", 23) + "} | { " + Harness.many("v23 = a#[0];", 6) + "} | { "
                + Harness.many("p#();", 12) + "} | {" + Harness.many("c# ! 1;", 8) + Harness.many("o# ! 1;", 4) + "} } }");
        h.good(head + "{ par { { " + Harness.many("a#[0] = 1;", 6) + "} | { " + Harness.many("v0 = v#;", 24) + "} | { "
                + Harness.many("p#();", 12) + "} | {" + Harness.many("c# ! 1;", 8) + Harness.many("o# ! 1;", 4) + "} } }");
        h.good(head + "{ par { { " + Harness.many("c# ? v23;", 8) + Harness.many("i# ? v0;", 4) + "} | { "
                + Harness.many("p#();", 12) + "} | {" + Harness.many("c# ! 1;", 8) + Harness.many("o# ! 1;", 4) + "} } }");
        eachClashes(h, head, 24, "v# = 1;", "v# = 2;");
        eachClashes(h, head, 23, "v# = 1;", "v23 = v#;");
        eachClashes(h, head, 6, "a#[0] = 1;", "a#[1] = 1;");
        eachClashes(h, head, 6, "a#[0] = 1;", "v0 = a#[1];");
        eachClashes(h, head, 8, "c# ! 1;", "c# ! 1;");
        eachClashes(h, head, 8, "c# ? v0;", "c# ? v1;");
        eachClashes(h, head, 4, "i# ? v0;", "i# ? v1;");
        eachClashes(h, head, 4, "o# ! 1;", "o# ! 1;");
        eachClashes(h, head, 12, "p#();", "p#();");
    }

    private static void eachClashes(Harness h, String head, int n, String one, String other) {
        for (int i = 0; i < n; i++) {
            String first = one.replace("#", "" + i);
            String second = other.replace("#", "" + i);
            h.fault(head + "{ @par { " + first + " | " + second + " } }");
            h.fault(head + "{ @par { " + second + " | " + first + " } }");
        }
    }

    /** Pars one after another, and what stands before and behind them, are no branches of one another. */
    private static void beside(Harness h) {
        h.good("int v; { par { v = 1; | skip; } par { skip; | v = 2; } }");
        h.good("int v; { v = 1; par { v = v + 1; | skip; } v = v + 1; }");
        h.good("chan c; int v; proc p() {} { par { c ! 1; | c ? v; } par { c ? v; | c ! 2; } par { p(); | skip; } p(); }");
        h.good("int v; int w; { par { par { v = 1; | skip; } | w = 1; } par { w = v; | skip; } }");
    }

    /** A par in a proc, in a fun or in another par is told as any other. */
    private static void inside(Harness h) {
        h.fault("fun f() { int y; @par { y = 1; | y = 2; } return y; } {}");
        h.fault("fun f(x) { int y; @par { y = x; | x = 2; } return y; } {}");
        h.fault("int v; fun f(x) {return x;} fun g() { int y; int z; @par { y = f(1); | z = f(2); } return y; } {}");
        h.ended("int v; fun f(x) { int y; int z; par { y = x + v; | z = x * 2; } return y * 100 + z; } { v = 4; v = f(3); }");
        h.holds("v", 706);
        h.fault("int v; proc p() { if (v) while (v) { skip; @par { v = 1; | v = 2; } } } {}");
        h.fault("int v; int w; { par { { skip; @par { v = 1; | { int x; x = v; } } } | w = 1; } }");
        // What two branches inside may share, a third one outside may not.
        h.good("int u; int v; int w; { par { par { u = v; | w = v; } | skip; } }");
        h.fault("int u; int v; int w; { @par { par { u = v; | w = v; } | v = 1; } }");
        h.fault("chan c; int v; { @par { par { c ! 1; | c ? v; } | c ! 2; } }");
        h.fault("proc p() {} { @par { par { p(); | skip; } | par { skip; | p(); } } }");
    }
}
