/** Promise 4: what names mean, and how often they are declared. */
public final class NameTest {
    public static void main(String[] args) {
        Harness h = new Harness("NameTest");
        once(h);
        scopes(h);
        kinds(h);
        calls(h);
        funs(h);
        h.close();
    }

    private static void once(Harness h) {
        for (String second : new String[] {"var @x:4;", "int @x;", "array @x[4];", "chan @x;", "in @x;", "out @x;",
            "proc @x(){}", "fun @x(){return 1;}"}) {
            for (String first : new String[] {"var x:4;", "int x;", "array x[4];", "chan x;", "in x;", "out x;",
                "proc x(){}", "fun x(){return 1;}"}) {
                h.fault(first + " " + second + " {}");
            }
        }
        h.fault("{ int x; int @x; }");
        h.fault("proc p(a, @a) {} {}");
        h.fault("proc p(a) { int @a; } {}");
        h.fault("fun f(a, b, @a) {return 1;} {}");
        h.fault("fun f(a) { int @a; return 1; } {}");
        h.good("int x; proc p(x) { { int x; x = 1; } } fun f(x) { { int x; x = 1; } return x; } { int x; { int x; } }");
        h.good("proc p(p) { int q; p = 1; } {}");
        h.good("{ { int x; } { int x; } }");
    }

    private static void scopes(Harness h) {
        h.fault("{ @x = 1; }");
        h.fault("{ { int x; } @x = 1; }");
        h.fault("proc p(x) {} { @x = 1; }");
        h.fault("proc p() { @x = 1; } int x; {}");
        h.fault("proc p() { @q(); } proc q() {} {}");
        h.fault("fun f(x) {return x;} { int y; y = @x; }");
        h.fault("int v; { v = @nosuch; }");
        h.fault("int v; { v = @nosuch[1]; }");
        h.fault("int v; { v = @nosuch(1); }");
        h.fault("chan c; { c ? @nosuch; }");
        h.fault("{ @nosuch(1); }");
        h.ended("int x; int y; { int x; x = 5; { int x; x = 6; } y = x; }");
        h.holds("x", 0);
        h.holds("y", 5);
        h.ended("int x; int y; proc p(x) { x = x + 1; y = x; } { x = 9; p(3); }");
        h.holds("x", 9);
        h.holds("y", 4);
        // A chan outside, an int inside.
        h.ended("chan c; int v; { int c; c = 4; v = c; }");
        h.holds("v", 4);
        h.fault("int c; { { int c; c = 1; } c = 1; @d = 1; }");
    }

    private static void kinds(Harness h) {
        String head = "int v; array a[4]; chan c; in i; out o; proc p(x) {} fun f(x) {return x;} ";
        for (String bad : new String[] {"a", "c", "i", "o", "p", "f"}) {
            h.fault(head + "{ @" + bad + " = 1; }");
            h.fault(head + "{ v = @" + bad + "; }");
            h.fault(head + "{ v = 1 + @" + bad + " * 2; }");
            h.fault(head + "{ c ? @" + bad + "; }");
            h.fault(head + "{ i ? @" + bad + "; }");
        }
        for (String bad : new String[] {"v", "c", "i", "o", "p", "f"}) {
            h.fault(head + "{ @" + bad + "[1] = 1; }");
            h.fault(head + "{ v = @" + bad + "[1]; }");
            h.fault(head + "{ c ? @" + bad + "[1]; }");
        }
        for (String bad : new String[] {"v", "a", "i", "p", "f"}) {
            h.fault(head + "{ @" + bad + " ! 1; }");
        }
        for (String bad : new String[] {"v", "a", "o", "p", "f"}) {
            h.fault(head + "{ @" + bad + " ? v; }");
        }
        for (String bad : new String[] {"v", "a", "c", "i", "o", "f"}) {
            h.fault(head + "{ @" + bad + "(1); }");
        }
        for (String bad : new String[] {"v", "a", "c", "i", "o", "p"}) {
            h.fault(head + "{ v = @" + bad + "(1); }");
        }
    }

    private static void calls(Harness h) {
        String head = "int v; proc p() {} proc q(a, b) {} fun f() {return 1;} fun g(a, b) {return a;} ";
        h.good(head + "{ p(); q(1, 2); v = f() + g(1, f()); }");
        h.fault(head + "{ @p(1); }");
        h.fault(head + "{ @q(); }");
        h.fault(head + "{ @q(1); }");
        h.fault(head + "{ @q(1, 2, 3, 4, 5, 6, 7); }");
        h.fault(head + "{ v = @f(1); }");
        h.fault(head + "{ v = @g(1); }");
        h.fault(head + "{ v = g(1, @f(1)); }");
        h.fault(head + "{ v = @g(f()); }");
        h.fault("proc p() { @p(); } {}");
        h.fault("proc p() { { skip; @p(); } } {}");
        h.fault("fun f(x) { return @f(1); } {}");
        h.fault("fun f(x) { x = @f(1); return x; } {}");
        h.good("proc p() {} proc q() { p(); } { q(); p(); }");
    }

    private static void funs(Harness h) {
        String head = "int v; var w:3; array a[4]; chan c; in i; out o; proc p() {} fun g(x) {return x + v + a[1];} ";
        h.good(head + "fun f(x) { int y; y = g(x); { int z; z = y; } if (x) x = 1; return v + w + a[x] + y; } {}");
        h.fault(head + "fun f(x) { @v = 1; return 1; } {}");
        h.fault(head + "fun f(x) { @w = 1; return 1; } {}");
        h.fault(head + "fun f(x) { @a[1] = 1; return 1; } {}");
        h.fault(head + "fun f(x) { @c ! 1; return 1; } {}");
        h.fault(head + "fun f(x) { @c ? x; return 1; } {}");
        h.fault(head + "fun f(x) { @i ? x; return 1; } {}");
        h.fault(head + "fun f(x) { @o ! x; return 1; } {}");
        h.fault(head + "fun f(x) { @p(); return 1; } {}");
        h.fault(head + "fun f(x) { while (x) { int y; y = 1; par { y = 2; | @v = 3; } } return 1; } {}");
        h.good(head + "fun f(v, w) { v = 1; w = v; return w; } { v = f(1, 2); p(); c ! 1; }");
        // The rule ends with the fun.
        h.good(head + "fun f(x) {return x;} proc q() { v = f(1); o ! 1; p(); } { q(); }");
    }
}
