import java.util.ArrayList;
import java.util.List;

/** Promise 6: what is begun when the one before is done, and what may work in any order. */
public final class OrderTest {
    /** Answers 1, 2, 3 and so on, so that its values tell the order of its calls. */
    private static final String NEXT = "fun t() { int n; n = n + 1; return n; } ";
    private static final String[] SIGNS = {"||", "&&", "|", "^", "&", "==", "!=", "<", "<=", ">", ">=", "<<", ">>", "+",
        "-", "*", "/", "%"};

    public static void main(String[] args) {
        Harness h = new Harness("OrderTest");
        leftFirst(h);
        bothBegun(h);
        subscriptFirst(h);
        argumentsFromTheLeft(h);
        doneBeforeItWaits(h);
        oneAfterAnother(h);
        chosenAlone(h);
        asFarAsItCan(h);
        branchesInAnyOrder(h);
        whoComesFirst(h);
        h.close();
    }

    /** Of a sign the left one first. */
    private static void leftFirst(Harness h) {
        for (String sign : SIGNS) {
            h.ended("int v; int w; " + NEXT + "{ v = t() * 1000 " + sign + " t(); w = 1000 " + sign + " 2; }");
            long want = h.look("w", 0);
            h.holds("v", want);
        }
        h.ended("int v; " + NEXT + "{ v = (t() * 10 + t()) * 100 + (t() * 10 + t()); }");
        h.holds("v", 1234);
        h.ended("int v; " + NEXT + "{ v = t() + t() * 10 + -t() * 100 + ~(t() * 1000); }");
        h.holds("v", 1 + 20 - 300 + ~4000);
        h.ended("int v; array a[4]; " + NEXT + "{ a[1] = 5; a[2] = 7; v = a[t()] * 100 + a[t()] * 10 + t(); }");
        h.holds("v", 573);
    }

    /** && and || begin both, whatever the left one is. */
    private static void bothBegun(Harness h) {
        for (String sign : new String[] {"||", "&&"}) {
            for (int left = 0; left <= 1; left++) {
                h.ended("int v; int w; " + NEXT + "{ w = " + left + " " + sign + " t(); v = t(); }");
                h.holds("v", 2);
            }
        }
    }

    /** Of an assignment or receive the subscript first. */
    private static void subscriptFirst(Harness h) {
        h.ended("array a[4]; " + NEXT + "{ a[t()] = t() * 10 + t(); }");
        h.holds("a", 1, 23);
        h.good("array a[4]; int v; in i; " + NEXT + "{ i ? a[t() + 1]; v = t(); }");
        // The block, the receive, +, the call with the fun's five, the number: all before it waits.
        h.due("run", h.forge.run(20000), 2);
        h.counts(7, 4 + 5 + 1);
        h.forge.give(0, 8);
        h.due("run", h.forge.run(20000), 1);
        h.counts(7, 1 + 1 + 5);
        h.holds("a", 2, 8);
        h.holds("v", 2);
        h.good("array a[4]; chan c; in i; int v; { par { { i ? v; c ! v; } | c ? a[1 + 1]; } }");
        h.due("run", h.forge.run(20000), 2);
        h.counts(7, 1 + 2 + 4);
        h.forge.give(0, 9);
        h.due("run", h.forge.run(20000), 1);
        h.counts(7, 2);
        h.holds("a", 2, 9);
    }

    /** A call: the E, from the left, and when all are done they become the PARAMETERS. */
    private static void argumentsFromTheLeft(Harness h) {
        h.ended("int v; proc p(a, b, c, d) { v = a * 1000 + b * 100 + c * 10 + d; } " + NEXT + "{ p(t(), t(), t(), t()); }");
        h.holds("v", 1234);
        h.ended("int v; fun f(a, b, c, d) {return a * 1000 + b * 100 + c * 10 + d;} " + NEXT + "{ v = f(t(), t(), t(), t()); }");
        h.holds("v", 1234);
        // The parameters of the call inside do not stay where those of the call around it go.
        h.ended("int v; fun f(a, b, c) {return a * 100 + b * 10 + c;} { v = f(1, f(0, 0, 2), f(0, 0, f(0, 0, 3))); }");
        h.holds("v", 123);
        h.ended("int v; proc p(a, b) { a = a + 1; b = b + a; v = v * 100 + b; } { p(1, 2); p(3, 4); }");
        h.holds("v", 4 * 100 + 8);
        // They are there when the BLOCK is begun, not before the last E is done.
        h.good("in i; int v; proc p(a, b) { v = a + b; } proc q() { int x; i ? x; p(x, x + 1); } { q(); }");
        h.due("run", h.forge.run(20000), 2);
        h.holds("v", 0);
        h.forge.give(0, 20);
        h.due("run", h.forge.run(20000), 1);
        h.holds("v", 41);
    }

    /** The E of a send is done once, before it waits; then it takes no step of its own. */
    private static void doneBeforeItWaits(Harness h) {
        h.good("in i; chan c; int v; int w; " + NEXT + "{ par { c ! t() * 7; | { i ? w; c ? v; } } w = t(); }");
        h.due("run", h.forge.run(20000), 2);
        h.counts(7, 1 + 1 + 4 + 6 + 1);
        h.forge.give(0, 1);
        h.due("run", h.forge.run(20000), 1);
        h.counts(7, 1 + 1 + 6);
        h.holds("v", 7);
        h.holds("w", 2);
        h.good("out o; int w; " + NEXT + "{ repeat 41 o ! t(); w = t(); }");
        h.due("run", h.forge.run(20000), 2);
        h.counts(7, 1 + 1 + 41 * 7);
        h.due("take", h.forge.take(0), 1);
        h.due("run", h.forge.run(20000), 1);
        h.counts(7, 7);
        h.holds("w", 42);
        for (int n = 2; n <= 41; n++) {
            h.due("take", h.forge.take(0), n);
        }
    }

    /** STATEMENTS of a BLOCK, times of a repeat and rounds of a while: each when the one before is done. */
    private static void oneAfterAnother(Harness h) {
        h.good("in i; array a[8]; int v; " + NEXT
                + "{ a[0] = t(); i ? v; a[1] = t(); repeat 2 { i ? v; a[t()] = v; } while (v) { i ? v; a[t()] = v; } a[7] = t(); }");
        int[][] held = {{1, 0, 0, 0, 0, 0, 0, 0}, {1, 2, 0, 0, 0, 0, 0, 0}, {1, 2, 0, 6, 0, 0, 0, 0},
            {1, 2, 0, 6, 7, 0, 0, 0}, {1, 2, 0, 6, 7, 8, 0, 0}, {1, 2, 0, 6, 7, 8, 0, 7}};
        int[] given = {5, 6, 7, 8, 0};
        for (int n = 0; n < held.length; n++) {
            h.due("run", h.forge.run(20000), n < 5 ? 2 : 1);
            for (int place = 0; place < 8; place++) {
                h.holds("a", place, held[n][place]);
            }
            if (n < 5) {
                h.due("give", h.forge.give(0, given[n]), 1);
            }
        }
    }

    /** Of an if one branch alone is begun, its E before it. */
    private static void chosenAlone(Harness h) {
        for (int x = -1; x <= 2; x++) {
            h.ended("int u; int v; int w; " + NEXT + "{ if (" + x + " * t()) u = t(); else v = t() * 10; w = t(); }");
            h.holds("u", x == 0 ? 0 : 2);
            h.holds("v", x == 0 ? 20 : 0);
            h.holds("w", 3);
            h.ended("int u; int w; " + NEXT + "{ if (" + x + ") u = t(); w = t(); while (!t()) skip; }");
            h.holds("u", x == 0 ? 0 : 1);
            h.holds("w", x == 0 ? 1 : 2);
        }
    }

    /** par: all branches, each as far as it can; done when all are. */
    private static void asFarAsItCan(Harness h) {
        h.good("in i; in j; in k; array a[4]; int v; int x; int y; int z; array b[4]; array c[4]; "
                + "{ par { { a[0] = 1; i ? x; a[1] = x; } | { b[0] = 1; j ? y; b[1] = y; } "
                + "| { c[0] = 1; k ? z; c[1] = z; } } v = 9; }");
        h.due("run", h.forge.run(20000), 2);
        for (String array : new String[] {"a", "b", "c"}) {
            h.holds(array, 0, 1);
            h.holds(array, 1, 0);
        }
        int[] order = {1, 2, 0};
        for (int n = 0; n < 3; n++) {
            h.holds("v", 0);
            h.due("give", h.forge.give(order[n], 20 + n), 1);
            h.due("run", h.forge.run(20000), n < 2 ? 2 : 1);
            h.holds(new String[] {"a", "b", "c"}[order[n]], 1, 20 + n);
        }
        h.holds("v", 9);
    }

    /** It does not matter in what order PARTS work: nor, then, in what order the branches stand. */
    private static void branchesInAnyOrder(Harness h) {
        String head = "in i; out o; chan c; chan d; chan e; int s; int n; array a[8]; proc p(x) { d ! x; d ! x + 1; } "
                + "fun f(x) { int k; k = k + x; return k; } ";
        String[] branches = {"repeat 4 { int x; i ? x; c ! x; }", "repeat 4 { int y; c ? y; p(y * 2); }",
            "repeat 8 { int z; d ? z; e ! f(z); s = s + z; }", "while (n < 8) { int u; e ? u; a[n] = u; o ! u; n = n + 1; }"};
        List<String> orders = new ArrayList<>();
        permute(branches, 0, orders);
        h.due("orders", orders.size(), 24);
        List<Long> due = null;
        for (String order : orders) {
            List<Long> answers = answers(h, head + "{ par { " + order + " } }");
            due = due == null ? answers : due;
            h.due("the answers with the branches " + order, answers.equals(due) ? 1 : 0, 1);
        }
    }

    private static void permute(String[] branches, int from, List<String> orders) {
        if (from == branches.length) {
            orders.add(String.join(" | ", branches));
        }
        for (int i = from; i < branches.length; i++) {
            swap(branches, from, i);
            permute(branches, from + 1, orders);
            swap(branches, from, i);
        }
    }

    private static void swap(String[] row, int i, int j) {
        String former = row[i];
        row[i] = row[j];
        row[j] = former;
    }

    private static List<Long> answers(Harness h, String text) {
        h.fresh();
        h.good(text);
        List<Long> answers = new ArrayList<>();
        for (int n = 0; n <= 4; n++) {
            answers.add((long) h.forge.run(20000));
            answers.add((long) h.forge.count(7));
            answers.add((long) h.forge.count(9));
            answers.add(h.look("s", 0));
            for (int place = 0; place < 8; place++) {
                answers.add(h.look("a", place));
            }
            answers.add((long) h.forge.give(0, 100 * n + 3));
        }
        h.counts(8, 1);
        for (int n = 0; n <= 8; n++) {
            answers.add(h.forge.take(0));
        }
        return answers;
    }

    /** A send waits till someone receives, a receive till someone sends; both are done then. */
    private static void whoComesFirst(Harness h) {
        for (String text : new String[] {"par { { i ? u; c ! u; w = 1; } | { c ? v; x = 1; } }",
            "par { { c ! 6; w = 1; } | { i ? u; c ? v; x = 1; } }"}) {
            h.good("in i; chan c; int u; int v; int w; int x; { " + text + " }");
            h.due("run", h.forge.run(20000), 2);
            h.holds("w", 0);
            h.holds("x", 0);
            h.forge.give(0, 6);
            h.due("run", h.forge.run(20000), 1);
            h.holds("v", 6);
            h.holds("w", 1);
            h.holds("x", 1);
        }
    }
}
