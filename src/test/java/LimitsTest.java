/** Promise 4: how many, how great and how deep, each at its limit and on either side of it. */
public final class LimitsTest {
    public static void main(String[] args) {
        Harness h = new Harness("LimitsTest");
        bitsOfVars(h);
        sizesOfArrays(h);
        timesOfRepeat(h);
        declared(h);
        variablesInTheText(h);
        parameters(h);
        branches(h);
        deepStatements(h);
        deepBrackets(h);
        deepInRoutines(h);
        notDeep(h);
        everyLevelInEveryBracket(h);
        h.close();
    }

    /** var NAME ":" NUMBER ";" (1 to 16). */
    private static void bitsOfVars(Harness h) {
        for (int bits = 1; bits <= 16; bits++) {
            h.ended("var v:" + bits + "; { v = -1; }");
            h.holds("v", (1 << bits) - 1);
        }
        for (String bits : new String[] {"0", "17", "18", "32", "33", "65535", "65536", "65537"}) {
            h.fault("var v:@" + bits + "; {}");
        }
        h.fault("var v:@-1; {}");
    }

    /** array NAME "[" NUMBER "]" ";" (of ints; 1, 2, 4, .. 64). */
    private static void sizesOfArrays(Harness h) {
        for (int size = 0; size <= 130; size++) {
            boolean fine = size == 1 || size == 2 || size == 4 || size == 8 || size == 16 || size == 32 || size == 64;
            if (fine) {
                h.ended("array a[" + size + "]; { a[" + (size - 1) + "] = 7; }");
                h.holds("a", size - 1, 7);
                h.holds("a", size, size == 1 ? 7 : 0);
            } else {
                h.fault("array a[@" + size + "]; {}");
            }
        }
        for (String size : new String[] {"256", "32768", "65535", "65536", "4294967297"}) {
            h.fault("array a[@" + size + "]; {}");
        }
        h.fault("array a[@-1]; {}");
    }

    /** repeat NUMBER: any number that a NUMBER can be. */
    private static void timesOfRepeat(Harness h) {
        for (int n = 0; n <= 3; n++) {
            h.ended("int v; { repeat " + n + " v = v + 1; }");
            h.holds("v", n);
        }
        h.good("{ repeat 65534 skip; }");
        h.good("{ repeat 65535 skip; }");
        h.fault("{ repeat @65536 skip; }");
        h.fault("{ repeat @-1 skip; }");
    }

    /** One less than the most is fine, the most is, of one more its NAME is the fault. */
    private static void most(Harness h, int what, int most, String pattern, String oneMore) {
        for (int n = most - 1; n <= most; n++) {
            h.good(Harness.many(pattern, n) + "{}");
            h.counts(what, n);
        }
        h.fault(Harness.many(pattern, most) + oneMore + " {}");
    }

    /** At most 24 variables, 6 arrays, 8 chans, 4 ins, 4 outs, 12 procs and funs. */
    private static void declared(Harness h) {
        most(h, 1, 24, "int v#;", "int @w;");
        most(h, 1, 24, "var v#:3;", "var @w:3;");
        most(h, 2, 6, "array v#[2];", "array @w[2];");
        most(h, 3, 8, "chan v#;", "chan @w;");
        most(h, 4, 4, "in v#;", "in @w;");
        most(h, 5, 4, "out v#;", "out @w;");
        most(h, 6, 12, "proc v#(){}", "proc @w(){}");
        most(h, 6, 12, "fun v#(){return 1;}", "fun @w(){return 1;}");
        String six = Harness.many("proc v#(){}", 6) + Harness.many("fun w#(){return 1;}", 5);
        h.good(six + "{}");
        h.counts(6, 11);
        h.good(six + "fun x(){return 1;} {}");
        h.counts(6, 12);
        h.fault(six + "fun x(){return 1;} proc @y(){} {}");
        h.fault(six + "proc x(){} fun @y(){return 1;} {}");
        all(h);
    }

    /** The most of every kind at once, the first and the last of each at work. */
    private static void all(Harness h) {
        h.ended(Harness.many("int v#;", 24) + Harness.many("array a#[64];", 6) + Harness.many("chan c#;", 8) + Harness.many("in i#;", 4)
                + Harness.many("out o#;", 4) + Harness.many("proc p#(){}", 12)
                + "{ v23 = 1; a5[63] = v23 + 1; par { c7 ! a5[63] + 1; | c7 ? a0[1]; } par { c0 ? v1; | c0 ! 4; } "
                + "o3 ! 5; o0 ! 6; p11(); p0(); }");
        for (int what = 1; what <= 6; what++) {
            h.counts(what, new int[] {24, 6, 8, 4, 4, 12}[what - 1]);
        }
        h.holds("v23", 1);
        h.holds("a5", 63, 2);
        h.holds("a0", 1, 3);
        h.holds("v1", 4);
        h.due("take", h.forge.take(3), 5);
        h.due("take", h.forge.take(0), 6);
        // Of one kind the most does not take from another's.
        h.good(Harness.many("array v#[1];", 6) + Harness.many("chan w#;", 8) + "int x; {}");
        // Nor does a text with too many leave anything for the next.
        h.fault(Harness.many("in i#;", 4) + Harness.many("array a#[2];", 6) + "array @w[2]; {}");
        h.good(Harness.many("array a#[2];", 6) + Harness.many("in i#;", 4) + "{}");
    }

    /** Variables: vars, ints, parameters; all in the text. */
    private static void variablesInTheText(Harness h) {
        String most = Harness.many("int v#;", 24);
        h.fault(most + "proc p(@x) {} {}");
        h.fault(most + "fun f(@x) {return 1;} {}");
        h.fault(most + "proc p() { int @x; } {}");
        h.fault(most + "proc p() { { int @x; } } {}");
        h.fault(most + "fun f() { int @x; return 1; } {}");
        h.fault(most + "{ int @x; }");
        h.fault(most + "{ { int @x; } }");
        String oneLess = Harness.many("int v#;", 23);
        h.good(oneLess + "proc p(x) {} {}");
        h.fault(oneLess + "proc p(x, @y) {} {}");
        h.good(oneLess + "fun f(x) {return x;} {}");
        h.fault(oneLess + "fun f(x) { int @y; return x; } {}");
        h.fault(oneLess + "proc p(x) {} var @y:1; {}");
        h.good(oneLess + "{ int x; }");
        h.fault(oneLess + "{ int x; int @y; }");
        // Blocks beside one another do not share theirs.
        h.good("{" + "{int x;}".repeat(24) + "}");
        h.counts(1, 24);
        h.fault("{" + "{int x;}".repeat(24) + "{int @x;}}");
        h.good(Harness.many("proc p#(a, b, c, d) {}", 6) + "{}");
        h.counts(1, 24);
        h.fault(Harness.many("proc p#(a, b, c, d) {}", 6) + "proc q(@a) {} {}");
    }

    /** NAMES: at most 4 PARAMETERS, and a call has as many E. */
    private static void parameters(Harness h) {
        String[] names = {"", "a", "a, b", "a, b, c", "a, b, c, d"};
        String[] sums = {"0", "a", "a + b", "a + b + c", "a + b + c + d"};
        String[] values = {"", "7", "7, 7", "7, 7, 7", "7, 7, 7, 7", "7, 7, 7, 7, 7"};
        for (int n = 0; n <= 4; n++) {
            String head = "int v; int w; proc p(" + names[n] + ") { w = " + sums[n] + "; } fun f(" + names[n]
                    + ") {return " + sums[n] + ";} ";
            h.ended(head + "{ p(" + values[n] + "); v = f(" + values[n] + "); }");
            h.holds("w", 7 * n);
            h.holds("v", 7 * n);
            h.counts(1, 2 + 2 * n);
            for (int other = 0; other <= 5; other++) {
                if (other != n) {
                    h.fault(head + "{ @p(" + values[other] + "); }");
                    h.fault(head + "{ v = @f(" + values[other] + "); }");
                }
            }
        }
        h.fault("proc p(a, b, c, d, @e) {} {}");
        h.fault("fun f(a, b, c, d, @e) {return 1;} {}");
        h.fault("proc p(a, b, c, d, @e, f) {} {}");
    }

    /** par "{" STATEMENT { "|" STATEMENT } "}" (2 to 6). */
    private static void branches(Harness h) {
        h.fault("{ par {@} }");
        h.fault("{ par { skip; @} }");
        for (int n = 2; n <= 6; n++) {
            h.ended("{ par { skip; " + "| {} ".repeat(n - 1) + "} }");
            h.counts(0, 1 + n);
            h.counts(7, 1 + n);
        }
        h.fault("{ par { skip; " + "| {} ".repeat(5) + "@| {} } }");
        h.fault("{ par { skip; " + "| {} ".repeat(5) + "@| {} | {} } }");
        // What is assigned to in the first and the last is told, too.
        h.good("int v; int w; { par { v = 1; | {} | {} | {} | {} | w = 2; } }");
        h.fault("int v; { @par { v = 1; | {} | {} | {} | {} | v = 2; } }");
        h.good("{ par { par { {} | {} | {} | {} | {} | {} } | par { {} | {} } } par { {} | {} | {} | {} | {} | {} } }");
    }

    /** Good with as many openings as can be, and with one less; of one more the fault lies where oneMore is marked. */
    private static void deep(Harness h, int most, String before, String open, String middle, String shut,
            String behind, String oneMore) {
        for (int n = most - 1; n <= most; n++) {
            h.good(before + open.repeat(n) + middle + shut.repeat(n) + behind);
        }
        h.fault(before + open.repeat(most) + oneMore + shut.repeat(most) + behind);
    }

    /** STATEMENTS lie in one another at most 20 deep, each one. */
    private static void deepStatements(Harness h) {
        deep(h, 20, "", "{", "{}", "}", "", "{@{}}");
        deep(h, 20, "", "{", "skip;", "}", "", "{@skip;}");
        deep(h, 20, "int v; ", "{", "v = 1;", "}", "", "{@v = 1;}");
        deep(h, 20, "proc p(x) {} ", "{", "p(1);", "}", "", "{@p(1);}");
        deep(h, 20, "chan c; ", "{", "c ! 1;", "}", "", "{@c ! 1;}");
        deep(h, 19, "{ ", "if (1) ", "skip;", "", "}", "if (1) @skip;");
        deep(h, 19, "{ ", "if (1) skip; else ", "skip;", "", "}", "if (1) @skip; else skip;");
        deep(h, 19, "{ ", "while (0) ", "skip;", "", "}", "while (0) @skip;");
        deep(h, 19, "{ ", "repeat 1 ", "skip;", "", "}", "repeat 1 @skip;");
        deep(h, 19, "{ ", "par { skip; | ", "skip;", "}", "}", "par { @skip; | skip; }");
        deep(h, 19, "{ ", "par { ", "skip;", " | skip; }", "}", "par { @skip; | skip; }");
        deep(h, 9, "{ ", "while (0) repeat 2 ", "if (1) skip; else skip;", "", "}", "if (1) repeat 2 @skip;");
    }

    /** Brackets of an E and signs before one lie there, too. */
    private static void deepBrackets(Harness h) {
        String head = "int v; array a[4]; in i; out o; proc p(x) {} fun f(x) {return x;} { ";
        for (String sign : new String[] {"-", "~", "!"}) {
            deep(h, 19, head + "v = ", sign, "1", "", "; }", "@" + sign + "1");
        }
        deep(h, 19, head + "v = ", "(", "1", ")", "; }", "@(1)");
        deep(h, 19, head + "v = ", "a[", "1", "]", "; }", "a@[1]");
        deep(h, 19, head + "v = ", "f(", "1", ")", "; }", "f@(1)");
        deep(h, 19, head, "a[", "1", "]", " = 1; }", "a@[1]");
        deep(h, 19, head + "i ? ", "a[", "1", "]", "; }", "a@[1]");
        deep(h, 19, head + "o ! ", "(", "1", ")", "; }", "@(1)");
        // The ( of a STATEMENT is none of an ATOM.
        deep(h, 19, head + "p(", "(", "1", ")", "); }", "@(1)");
        deep(h, 19, head + "if (", "(", "1", ")", ") skip; }", "@(1)");
        deep(h, 19, head + "while (", "(", "0", ")", ") skip; }", "@(1)");
        // All kinds count together.
        deep(h, 9, head + "v = -", "(~", "1", ")", "; }", "@(1)");
        deep(h, 6, head + "v = a[", "f(a[!", "1", "])", "]; }", "@-1");
        deep(h, 9, head + "if (1) ".repeat(9) + "v = -", "(", "1", ")", "; }", "@(1)");
    }

    /** The BLOCK of a proc and what stands in a fun are no STATEMENTS themselves. */
    private static void deepInRoutines(Harness h) {
        deep(h, 19, "proc p() {", "{", "skip;", "}", "} {}", "{@skip;}");
        deep(h, 19, "fun f() {", "{", "skip;", "}", " return 1; } {}", "{@skip;}");
        deep(h, 20, "fun f() {return ", "(", "1", ")", ";} {}", "@(1)");
        deep(h, 19, "fun f(x) { x = ", "-", "1", "", "; return 1; } {}", "@-1");
        // A call is no deeper for what it calls.
        h.ended("int v; proc p() " + "{".repeat(20) + "v = 3;" + "}".repeat(20) + " "
                + "{".repeat(20) + "p();" + "}".repeat(20));
        h.holds("v", 3);
    }

    /** What lies beside one another is not deep. */
    private static void notDeep(Harness h) {
        h.good("int v; { v = " + "(1) + ".repeat(100) + "-1; " + "{}".repeat(100) + "}");
        h.good("int v; { v = 1" + " - -1".repeat(100) + "; }");
        h.good("array a[4]; { a[1] = " + "a[1] + ".repeat(100) + "1; }");
        h.good("int v; { v = 1 || 1 && 1 | 1 ^ 1 & 1 == 1 < 1 << 1 + 1 * 1; }");
        h.ended("int v; { v = " + "(".repeat(19) + "1" + "+1)".repeat(19) + "; " + "{".repeat(19) + "v = v + 1;"
                + "}".repeat(19) + " }");
        h.holds("v", 21);
    }

    /** As many signs as can wait for their right E at once: one of each level in each bracket. */
    private static void everyLevelInEveryBracket(Harness h) {
        String signs = "0 || 1 && 0 | 0 ^ 1 & 0 != 2 < 1 << 1 + 1 * ";
        String opened = "int v; fun f() {return " + (signs + "(").repeat(20) + signs;
        String shut = ")".repeat(20) + ";} { v = f(); }";
        h.ended(opened + "0" + shut);
        h.holds("v", 0);
        h.ended(opened + "5" + shut);
        h.holds("v", 1);
        h.counts(0, 21 * 20 + 1 + 2);
        h.fault(opened + "@(5)" + shut);
    }
}
