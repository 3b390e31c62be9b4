/** All promises: no text and no argument, in any state, makes a call throw or answer what no promise allows. */
public final class AnyCallsTest {
    private static final String[] TOKENS = ("var int array chan in out proc fun if else while repeat par return skip "
            + "{ } ( ) [ ] , ; : = + - * / % & | ^ ~ ! ? && || == != < <= > >= << >> a b c d e f 0 1 2 4 17 64 65535 65536 $")
            .split(" ");
    private static final String[] TEXTS = {
        "in a; in b; out o; out q; { par { repeat 50 { int x; a ? x; o ! x + 1; } | repeat 50 { int y; b ? y; q ! y * 2; } } }",
        "int v; array a[8]; fun f(x, y) { int z; z = x * y; if (z < 0) z = -z; return z % 100; } "
                + "proc p(n) { while (n > 0) { a[n] = f(n, v); n = n - 1; } } { repeat 3 { v = v + 7; p(v); } }",
        "var a:3; chan c; chan d; in i; out o; proc s() { int n; while (n < 9) { n = n + 1; c ! n << 3; } } "
                + "{ par { s(); | repeat 9 { int x; c ? x; d ! x / 0 + ~x; } | repeat 9 { int y; d ? y; i ? a; o ! y ^ a; } } }",
        "{ while (1) { } }",
        "out o; int n; { while (n >= 0) { o ! n; n = n + 1000; } }",
    };
    private static final int[] EDGES = {0, 1, -1, 2, 3, 4, 5, 39, 40, 41, 2000, 20000, 20001, Integer.MAX_VALUE,
        Integer.MIN_VALUE};

    private final Harness h = new Harness("AnyCallsTest");
    private long seed = 20261116;

    public static void main(String[] args) {
        AnyCallsTest test = new AnyCallsTest();
        for (int round = 0; round < 400; round++) {
            test.h.fresh();
            test.calls(100);
        }
        test.longest();
        test.h.close();
    }

    private int random(int n) {
        seed = seed * 6364136223846793005L + 1442695040888963407L;
        return (int) ((seed >>> 33) % n);
    }

    private int argument() {
        return random(3) == 0 ? EDGES[random(EDGES.length)] : random(45) - 2;
    }

    private void calls(int n) {
        for (int i = 0; i < n; i++) {
            try {
                call(random(12));
            } catch (RuntimeException thrown) {
                h.due("a call that threw " + thrown, 1, 0);
            }
        }
    }

    private void call(int which) {
        HandshakeForge forge = h.forge;
        switch (which) {
            case 0: case 1: case 2:
                compile(random(3) == 0 ? TEXTS[random(TEXTS.length)] : changed());
                break;
            case 3:
                within("feed", forge.feed(argument(), argument(), argument(), argument(), argument()), -3, 2000);
                break;
            case 4:
                within("end", forge.end(argument()), -1, 2000);
                break;
            case 5:
                within("begin", forge.begin(), -2, 0);
                break;
            case 6:
                within("run", forge.run(argument()), -2, 3);
                break;
            case 7:
                within("run", forge.run(1 + random(20000)), -2, 3);
                break;
            case 8:
                within("give", forge.give(argument(), argument()), -3, 40);
                break;
            case 9:
                word("take", forge.take(argument()));
                break;
            case 10:
                h.tape(TOKENS[random(TOKENS.length)]);
                word("look", forge.look(argument()));
                break;
            default:
                within("count", forge.count(argument()), -1, 20000);
                break;
        }
    }

    private void compile(String text) {
        h.forge.end(0);
        h.tape(text);
        within("compile of '" + text + "'", h.forge.compile(), -2, text.length());
    }

    /** A text with some tokens changed, or tokens without any order. */
    private String changed() {
        String[] tokens = TEXTS[random(TEXTS.length)].split("(?<=[^a-z0-9])|(?=[^a-z0-9])");
        int changes = 1 + random(random(4) == 0 ? 60 : 2);
        for (int i = 0; i < changes; i++) {
            String other = random(2) == 0 ? TOKENS[random(TOKENS.length)] : tokens[random(tokens.length)];
            int place = random(tokens.length);
            tokens[place] = random(2) == 0 ? " " + other + " " : tokens[place] + " " + other + " ";
        }
        String text = String.join("", tokens);
        return text.length() > 2000 ? text.substring(0, 2000) : text;
    }

    /** Texts of all 2000 bytes with as many parts and as many tokens as they can have. */
    private void longest() {
        fills("{", "{}", "}");
        fills("int v;{v=1", "+1", ";}");
        fills("int v;{v=v", "*~1", ";}");
        fills("{par{skip;|{", ";", "}}}");
        fills("int v;{v=f(1", ",1", ");}");
        fills("fun f(a,b){return a;}int v;{v=f(1", ",1", ");}");
        fills("", "{", "");
        fills("int v;{v=", "(", "");
        fills("int v;{v=", "-", "");
        fills("{", "if(1)", "");
        fills("{", "par{", "");
        fills("array a[4];{", "a[", "");
        fills("", "1", "");
        fills("", "a", "");
        fills("", "\u00ff", "");
        h.fresh();
        compile("int v;{v=1" + "+1".repeat(994) + ";}");
        h.counts(0, 1 + 2 * 994 + 1);
        h.due("run of the most parts", h.forge.run(20000), 1);
        h.counts(7, 1 + 2 * 994 + 1);
        h.holds("v", 995);
    }

    private void fills(String head, String again, String tail) {
        h.fresh();
        int times = (2000 - head.length() - tail.length()) / again.length();
        compile(head + again.repeat(times) + tail);
        calls(30);
    }

    private void within(String call, long answer, long least, long most) {
        h.due(call + " is within its answers", answer >= least && answer <= most ? 1 : 0, 1);
    }

    /** A value of 16 bits or a var of 16, or the one that says that there is none. */
    private void word(String call, long answer) {
        boolean fine = answer == Harness.NO_VALUE || answer >= -32768 && answer <= 65535;
        h.due(call + " is within its answers", fine ? 1 : 0, 1);
    }
}
