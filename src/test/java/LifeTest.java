/** What it is: an object for 512 calls, each of which may be the last; and objects beside one another. */
public final class LifeTest {
    private static final int CALLS = 512;
    private static final String[] NAMES = {"feed", "end", "compile", "begin", "run", "give", "take", "look", "count"};
    private static final String[] TEXTS = {
        "in i; out o; int v; { int x; o ! 7; i ? x; v = x; }",
        "out o; int v; array a[4]; { while (1) { a[v] = v; o ! v * 3; v = v + 1; } }",
        "int v; chan c; in i; { par { repeat 9 { int x; i ? x; c ! x; } | repeat 9 { int y; c ? y; v = v + y; } } }",
        "int v; { while (v < 4000) v = v + 1; }",
        "int v; { v = 1 }",
        "int v; { par { v = 1; | v = 2; } }",
        "v", "a", "",
    };

    private final Harness h = new Harness("LifeTest");

    public static void main(String[] args) {
        LifeTest test = new LifeTest();
        test.steady();
        test.everyCallLast();
        test.longestRuns();
        test.manyTexts();
        for (int seed = 1; seed <= 40; seed++) {
            test.beside(seed);
        }
        test.h.close();
    }

    private int put(String text) {
        h.fresh();
        h.tape(text);
        h.due("compile", h.forge.compile(), HandshakeForge.NONE);
        return (text.length() + 19) / 20 + 2;
    }

    /** Values come and go till the last call. */
    private void steady() {
        int calls = put("in i; out o; int n; { while (1) { int x; i ? x; n = n + 1; o ! x + n; } }");
        int n = 0;
        while (calls + 4 + 3 <= CALLS) {
            n++;
            h.due("give " + n, h.forge.give(0, 1000 * n), 1);
            h.due("run " + n, h.forge.run(20000), 2);
            h.due("steps of run " + n, h.forge.count(7), n == 1 ? 4 + 8 + 3 : 8 + 3);
            h.due("take " + n, h.forge.take(0), (short) (1000 * n + n));
            calls += 4;
        }
        h.holds("n", n);
    }

    /** Each call as the 512th. */
    private void everyCallLast() {
        long[] due = {21, 1, 0, 0, 1, 1, 7, 5, 6};
        for (int i = 0; i < NAMES.length; i++) {
            int calls = put(TEXTS[0]);
            h.due("give", h.forge.give(0, 5), 1);
            h.due("run", h.forge.run(100), 1);
            h.tape("v");
            for (calls += 4; calls < CALLS - 1; calls++) {
                h.due("count", h.forge.count(7), 6);
            }
            h.due("the last call, " + NAMES[i], call(h.forge, NAMES[i], 1, 0), due[i]);
        }
    }

    /** As many steps as an object can ever take. */
    private void longestRuns() {
        int calls = put("in i; int n; { while (1) { int x; i ? x; repeat 19990 skip; n = n + 1; } }");
        h.due("run", h.forge.run(20000), 2);
        int n = 0;
        for (calls++; calls + 2 + 3 <= CALLS; calls += 2) {
            n++;
            h.due("give", h.forge.give(0, n), 1);
            h.due("run " + n, h.forge.run(20000), 2);
        }
        h.holds("n", n);
        calls = put("{ while (1) skip; }");
        for (; calls + 2 <= CALLS; calls += 2) {
            h.due("run", h.forge.run(20000), 3);
            h.due("begin", h.forge.begin(), 0);
        }
    }

    /** Texts without a fault and with one, as many as there can be. */
    private void manyTexts() {
        h.fresh();
        for (int calls = 0; calls + 6 <= CALLS; calls += 6) {
            h.tape("int v;{v=1;v=v+" + (calls % 9));
            h.due("compile of half a text", h.forge.compile(), 16);
            h.tape("var v:" + (1 + calls % 16) + ";{v=99;}");
            h.due("compile", h.forge.compile(), HandshakeForge.NONE);
        }
    }

    /** The same calls give the same answers, whatever other objects are asked in between. */
    private void beside(int seed) {
        HandshakeForge alone = new HandshakeForge();
        HandshakeForge one = new HandshakeForge();
        HandshakeForge other = new HandshakeForge();
        long[] due = new long[CALLS];
        for (int i = 0; i < CALLS; i++) {
            due[i] = chosen(alone, seed, i);
        }
        for (int i = 0; i < CALLS; i++) {
            h.due("call " + i + " beside another object", chosen(one, seed, i), due[i]);
            chosen(other, seed + 1000, i);
        }
    }

    /** A call that depends on nothing but the seed and its place in the row. */
    private static long chosen(HandshakeForge forge, int seed, int place) {
        int text = mixed(seed, place / 8) % TEXTS.length;
        int part = place % 8;
        if (part < 6) {
            String bytes = TEXTS[text];
            int length = Math.min(bytes.length() - part * 20, 20);
            if (length > 0) {
                return feed(forge, bytes.substring(part * 20, part * 20 + length));
            }
        }
        if (part == 6) {
            return forge.end(TEXTS[text].length());
        }
        int which = mixed(seed, place + 77);
        String name = part == 7 && which % 4 > 0 ? (TEXTS[text].length() > 1 ? "compile" : "look") : NAMES[which % 7 + 2];
        return call(forge, name, which / 64 % 300, which / 16 % 3);
    }

    private static int mixed(int seed, int place) {
        long mixed = (seed * 1000003L + place) * 6364136223846793005L;
        mixed ^= mixed >>> 29;
        return (int) (mixed * 1442695040888963407L >>> 40);
    }

    private static int feed(HandshakeForge forge, String bytes) {
        int[] fours = new int[5];
        for (int i = 0; i < bytes.length(); i++) {
            fours[i / 4] |= bytes.charAt(i) << 24 - i % 4 * 8;
        }
        return forge.feed(fours[0], fours[1], fours[2], fours[3], fours[4]);
    }

    private static long call(HandshakeForge forge, String name, int n, int k) {
        switch (name) {
            case "feed":
                return forge.feed(n, n, n, n, n);
            case "end":
                return forge.end(n);
            case "compile":
                return forge.compile();
            case "begin":
                return forge.begin();
            case "run":
                return forge.run(n);
            case "give":
                return forge.give(k, n);
            case "take":
                return forge.take(k);
            case "look":
                return forge.look(k);
            default:
                return forge.count(n == 1 ? 7 : n % 14);
        }
    }
}
