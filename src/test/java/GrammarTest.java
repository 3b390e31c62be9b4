/** Promise 4: the grammar, and the place of the first token that can not stand there. */
public final class GrammarTest {
    public static void main(String[] args) {
        Harness h = new Harness("GrammarTest");
        declarations(h);
        blocks(h);
        statements(h);
        expressions(h);
        pars(h);
        h.close();
    }

    private static void declarations(Harness h) {
        h.good("var a:1; var b:16; int c; array d[1]; array e[64]; chan f; in g; out i; proc j(){} "
                + "fun k(){return 1;} {}");
        h.good("array a[2]; array b[4]; array c[8]; array d[16]; array e[32]; {}");
        h.fault("var v@; {}");
        h.fault("var v:@; {}");
        h.fault("var v:4 @{}");
        h.fault("var @:4; {}");
        h.fault("int @; {}");
        h.fault("int a@, b; {}");
        h.fault("array a@; {}");
        h.fault("array a[@]; {}");
        h.fault("array a[2@; {}");
        h.fault("array a[2] @{}");
        h.fault("chan c@[2]; {}");
        h.fault("in @int; {}");
        h.fault("out o @out p; {}");
        h.fault("proc p @{} {}");
        h.fault("proc p(@,) {} {}");
        h.fault("proc p(a,@) {} {}");
        h.fault("proc p(a @b) {} {}");
        h.fault("proc p(a)@; {}");
        h.fault("proc p(@int a) {} {}");
        h.fault("fun f() {@} {}");
        h.fault("fun f() {return @;} {}");
        h.fault("fun f() {return 1@} {}");
        h.fault("fun f() {return 1;@skip;} {}");
        h.fault("fun f() @return 1; {}");
        h.fault("proc p() {@return 1;} {}");
        h.fault("int a; @");
        h.fault("int a; @skip;");
        h.fault("{} @int a;");
    }

    private static void blocks(Harness h) {
        h.good("{int a; int b; a = 1; {int a; int c; c = 2;} {int a;} b = a;}");
        h.fault("{skip; @int a;}");
        h.fault("{@var a:4;}");
        h.fault("{@array a[4];}");
        h.fault("{@chan c;}");
        h.fault("{int a@}");
        h.fault("{@;}");
        h.fault("{{}@;}");
        h.fault("{{}@");
        h.fault("{skip;@)}");
    }

    private static void statements(Harness h) {
        String head = "int v; array a[4]; chan c; in i; out o; proc p(x, y) {} ";
        h.good(head + "{ skip; v = 1; a[v] = 2; c ! v; c ? v; c ? a[1]; i ? v; o ! 3; p(1, v); if (v) skip; "
                + "if (v) skip; else {} while (v) skip; repeat 3 skip; par { skip; | skip; } }");
        h.good(head + "{ if (v) if (v) skip; else skip; else skip; }");
        h.fault(head + "{ skip @}");
        h.fault(head + "{ v = @; }");
        h.fault(head + "{ v @1; }");
        h.fault(head + "{ v@; }");
        h.fault(head + "{ v @+ 1; }");
        h.fault(head + "{ a[1]@; }");
        h.fault(head + "{ a[@] = 1; }");
        h.fault(head + "{ a[1 @= 1; }");
        h.fault(head + "{ a @1; }");
        h.fault(head + "{ c ! @; }");
        h.fault(head + "{ c @1; }");
        h.fault(head + "{ c ? @1; }");
        h.fault(head + "{ c ? v @+ 1; }");
        h.fault(head + "{ c ? a[1] @= 2; }");
        h.fault(head + "{ p@; }");
        h.fault(head + "{ p(1,@); }");
        h.fault(head + "{ p(1, 2@; }");
        h.fault(head + "{ p(1, 2) @}");
        h.fault(head + "{ if @v skip; }");
        h.fault(head + "{ if (@) skip; }");
        h.fault(head + "{ if (v) @}");
        h.fault(head + "{ if (v) skip; else @}");
        h.fault(head + "{ @else skip; }");
        h.fault(head + "{ while (v @; skip; }");
        h.fault(head + "{ while (v) @}");
        h.fault(head + "{ repeat @v skip; }");
        h.fault(head + "{ repeat @(3) skip; }");
        h.fault(head + "{ repeat 3 @}");
        h.fault(head + "{ @1 = v; }");
        h.fault(head + "{ @(v) = 1; }");
        h.fault(head + "{ @return 1; }");
    }

    private static void expressions(Harness h) {
        String head = "int v; array a[4]; fun f(x) {return x;} ";
        h.good(head + "{ v = (((1)) + -~!v) * f(a[f(v)]) % 3; }");
        h.fault(head + "{ v = 1 @2; }");
        h.fault(head + "{ v = 1 + @; }");
        h.fault(head + "{ v = 1 + @* 2; }");
        h.fault(head + "{ v = (1 @; }");
        h.fault(head + "{ v = 1@); }");
        h.fault(head + "{ v = (@); }");
        h.fault(head + "{ v = a[1@; }");
        h.fault(head + "{ v = f(1@; }");
        h.fault(head + "{ v = f(1 @2); }");
        h.fault(head + "{ v = 1 @? 2; }");
        h.fault(head + "{ v = 1 @! 2; }");
        h.fault(head + "{ v = 1 @~ 2; }");
        h.fault(head + "{ v = @skip; }");
        h.fault(head + "{ v = v @= 1; }");
    }

    private static void pars(Harness h) {
        h.good("{ par { skip; | skip; } }");
        h.fault("{ par { skip; | @} }");
        h.fault("{ par @skip; | skip; }");
        h.fault("{ par { @| skip; } }");
        h.fault("{ par { skip; | skip; @skip; } }");
        h.fault("{ par { skip; | skip; @");
    }
}
