/** Promise 4: which place the FAULT of a text names, in each of its cases and where cases meet. */
public final class FaultPlaceTest {
    private static final String HEAD = "int v; array a[4]; chan c; in i; out o; proc p(x) {} fun f(x) {return x;} ";

    public static void main(String[] args) {
        Harness h = new Harness("FaultPlaceTest");
        missing(h);
        oneMore(h);
        firstOfAll(h);
        tooMuch(h);
        declaredThere(h);
        meansNothing(h);
        canNotStand(h);
        numberOfE(h);
        parsLast(h);
        nothingLeftOver(h);
        h.close();
    }

    /** If something is missing: the end, with the blanks behind the last token. */
    private static void missing(Harness h) {
        String text = "var b : 3 ; int v ; array a [ 4 ] ; chan c ; in i ; out o ; proc p ( x , y ) { int z ; z = x ; } "
                + "fun f ( x ) { int y ; y = - x ; return ( y + 1 ) ; } { int w ; if ( v ) skip ; else { } while ( v < 3 ) "
                + "v = v + 1 ; repeat 2 c ! 1 ; a [ v ] = v ; p ( 1 , v ) ; par { o ! 2 ; | i ? v ; } } ";
        h.good(text);
        for (int end = text.indexOf(' ') + 1; end > 0 && end < text.length(); end = text.indexOf(' ', end) + 1) {
            h.fault(text.substring(0, end) + "@");
            h.fault(text.substring(0, end) + "\n  @");
        }
        h.fault("@");
    }

    /** What comes behind the whole is too much, whatever it is. */
    private static void oneMore(Harness h) {
        for (String more : new String[] {"{}", "}", ";", "skip;", "int x;", "v", "1", "$", "abcdefghi", "65536"}) {
            h.fault(HEAD + "{ v = 1; }@" + more);
            h.fault(HEAD + "{ v = 1; } \n@" + more);
        }
        h.good(HEAD + "{ v = 1; } \n");
    }

    /** Of two the first counts, of whatever sorts they are. */
    private static void firstOfAll(Harness h) {
        String[] faults = {"v = @; ", "v = 1 @v; ", "@nosuch = 1; ", "v = @a; ", "@f = 1; ", "@p(1, 2); ", "v = @65536; ",
            "v = @abcdefghi; ", "v = @$; ", "v = " + "(".repeat(19) + "@(1" + ")".repeat(20) + "; ", "{ int w; int @w; } ",
            "par { skip; @} ", "v = @f(); "};
        for (String first : faults) {
            for (String second : faults) {
                h.fault(HEAD + "{ " + first + second.replace("@", "") + "}");
            }
        }
    }

    /** Too deep, too many, too great: its own place. */
    private static void tooMuch(Harness h) {
        h.fault("{".repeat(20) + "{@{" + "}".repeat(22));
        h.fault("int v; { v = " + "-".repeat(19) + "@-1; }");
        h.fault("chan a; chan b; chan c; chan d; chan e; chan f; chan g; chan h; chan @i; {}");
        h.fault("proc p(a, b, c, d, @e) {} {}");
        h.fault("{ par { {} | {} | {} | {} | {} | {} @| {} } }");
        h.fault("var v:@17; {}");
        h.fault("array a[@65]; {}");
        // One too many that has been declared before, and one too deep that could not stand there anyway.
        h.fault("in a; in b; in c; in d; in @a; {}");
        h.fault("{".repeat(21) + "@1" + "}".repeat(21));
        h.fault("{".repeat(21) + "@nosuch = 1;" + "}".repeat(21));
        // What would be too many further on does not count before.
        h.fault("in a; in b; in c; in d; in @; {}");
        h.fault("in a; in b; in c; in d @in e; {}");
        h.fault("proc p(a, b, c, d@; e) {} {}");
    }

    /** A NAME that is declared where it can not be: twice in one place. */
    private static void declaredThere(Harness h) {
        h.fault(HEAD + "int @v; {}");
        h.fault(HEAD + "proc @f() {} {}");
        h.fault(HEAD + "proc q(y, @y) {} {}");
        h.fault(HEAD + "proc q(y) { int @y; } {}");
        h.fault(HEAD + "fun g(y) { int z; int @z; return 1; } {}");
        h.fault(HEAD + "{ int y; { int y; } { int y; int @y; } }");
        h.good(HEAD + "proc q(v) { { int v; { int v; v = 1; } } } fun g(v) { { int v; } return v; } { int v; { int v; } }");
    }

    /** A NAME that means nothing: not declared, not yet, or not any more. */
    private static void meansNothing(Harness h) {
        h.fault(HEAD + "{ @w = 1; }");
        h.fault(HEAD + "{ @w 1; }");
        h.fault(HEAD + "{ @w");
        h.fault(HEAD + "{ v = @w; }");
        h.fault(HEAD + "{ a[@w] = 1; }");
        h.fault(HEAD + "{ i ? @w; }");
        h.fault(HEAD + "{ i ? a[@w]; }");
        h.fault(HEAD + "{ p(@w); }");
        h.fault(HEAD + "{ while (@w) skip; }");
        h.fault(HEAD + "proc q() { @w = 1; } int w; {}");
        h.fault(HEAD + "{ { int w; } @w = 1; }");
        h.fault(HEAD + "{ v = @x; }");
        h.good(HEAD + "int w; proc q() { w = 1; } {}");
    }

    /** A NAME that means what can not stand there: told by what follows it, the place is the NAME's. */
    private static void canNotStand(Harness h) {
        h.fault(HEAD + "{ @a = 1; }");
        h.fault(HEAD + "{ @v[1] = 1; }");
        h.fault(HEAD + "{ @c = 1; }");
        h.fault(HEAD + "{ @v ! 1; }");
        h.fault(HEAD + "{ @i ! 1; }");
        h.fault(HEAD + "{ @o ? v; }");
        h.fault(HEAD + "{ @v(1); }");
        h.fault(HEAD + "{ @f(1); }");
        h.fault(HEAD + "{ v = @p(1); }");
        h.fault(HEAD + "{ v = @f; }");
        h.fault(HEAD + "{ v = @a + 1; }");
        h.fault(HEAD + "{ v = 1 + @c; }");
        // What can begin a STATEMENT is not the fault, what then can not follow is.
        for (String name : new String[] {"v", "a", "c", "i", "o", "p"}) {
            h.fault(HEAD + "{ " + name + " @1; }");
            h.fault(HEAD + "{ " + name + "@; }");
        }
        h.fault(HEAD + "{ @f 1; }");
        h.fault("proc p() { @p(); } {}");
        h.fault("proc p() { @p; } {}");
        h.fault("fun f() {return @f();} {}");
        h.good("proc p() {} proc q() { p(); } fun f() {return 1;} fun g() {return f();} {}");
    }

    /** Another number of E: the NAME again, when the ) comes. */
    private static void numberOfE(Harness h) {
        String head = HEAD + "fun g(x, y) {return x;} proc q(x, y) {} ";
        h.good(head + "{ q(1, 2); v = g(1, 2); }");
        h.fault(head + "{ @q(1); }");
        h.fault(head + "{ @q(1, 2, 3); }");
        h.fault(head + "{ v = @g(1); }");
        h.fault(head + "{ v = @g(1, 2, 3); }");
        h.fault(head + "{ v = @g(); }");
        // Before the ) anything else is told first, behind it nothing.
        h.fault(head + "{ q(1, 2, 3, @nosuch); }");
        h.fault(head + "{ q(1, 2, 3@; }");
        h.fault(head + "{ q(1@; }");
        h.fault(head + "{ q(1, 2, 3,@); }");
        h.fault(head + "{ q(1, 2, 3, @");
        h.fault(head + "{ @q(1) }");
        h.fault(head + "{ @q(1) nosuch = 1; }");
        h.fault(head + "{ q(1, 2) @}");
        h.fault(head + "{ v = g(@f(), 1, 2); }");
        h.fault(head + "{ v = @g(f(1)); }");
        h.fault(head + "{ v = f(@g(1)); }");
        h.fault(head + "{ v = f(g(1, 2), @f()); }");
    }

    /** Only if there is none of these, the first par in which branches are not as told. */
    private static void parsLast(Harness h) {
        String bad = "par { v = 1; | v = 2; } ";
        h.fault(HEAD + "{ @" + bad + "}");
        h.fault(HEAD + "{ par { v = 1; | skip; } @" + bad + bad + "}");
        h.fault(HEAD + "{ " + bad + "@nosuch = 1; }");
        h.fault(HEAD + "{ " + bad + "} @}");
        h.fault(HEAD + "{ " + bad + "@");
        h.fault(HEAD + "proc q() { " + bad + "} { @q(1); }");
        h.fault(HEAD + "proc q() { @" + bad + "} { " + bad + "}");
        h.fault(HEAD + "{ @par { par { v = 1; | v = 2; } | v = 3; } }");
        h.fault(HEAD + "{ par { @par { v = 1; | v = 2; } | skip; } }");
        h.fault(HEAD + "{ par { skip; | @par { v = 1; | v = 2; } } " + bad + "}");
        h.fault(HEAD + "{ par { @" + bad + "| par { a[0] = 1; | a[1] = 2; } } }");
    }

    /** A text with a fault, however deep in it, changes nothing for the next one. */
    private static void nothingLeftOver(Harness h) {
        String good = "int v; { v = 1; par { v = 2; | skip; } }";
        for (String bad : new String[] {"int a; int b; fun f(x) { x = @; return 1; } {}", "proc p(v) { v = @; } {}",
            "int v; { par { v = 1; | v = @; } }", "int v; { @par { v = 1; | v = 2; } }", "{ { int v; @", "int v; { v = @f"}) {
            h.fresh();
            h.fault(bad);
            h.ended(good);
            h.holds("v", 2);
        }
        // Each of these has ten signs that wait for their right E.
        h.fresh();
        for (int i = 0; i < 60; i++) {
            h.tape("int v;{v=1||1&&1|1^1&1==1<1<<1+1*;}");
            h.due("compile", h.forge.compile(), 33);
        }
        h.tape("int v;{v=1||1&&1|1^1&1==1<1<<1+1*2;}");
        h.due("compile", h.forge.compile(), HandshakeForge.NONE);
    }
}
