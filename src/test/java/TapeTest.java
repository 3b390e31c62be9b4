/** Promises 2 and 3: feed and end, and how full the tape can be. */
public final class TapeTest {
    public static void main(String[] args) {
        Harness h = new Harness("TapeTest");
        noneAtFirst(h);
        atMost(h);
        fullKeeps(h);
        cuts(h);
        order(h);
        bytes(h);
        longestText(h);
        emptied(h);
        notRead(h);
        h.close();
    }

    private static int feed(Harness h) {
        return h.forge.feed(0, 0, 0, 0, 0);
    }

    private static void noneAtFirst(Harness h) {
        h.due("end", h.forge.end(0), 0);
        h.due("end of one", h.forge.end(1), HandshakeForge.REFUSED);
        h.due("compile of nothing", h.forge.compile(), 0);
        h.due("the first feed", feed(h), 20);
    }

    /** How many it has; FULL if it would have more than 2000. */
    private static void atMost(Harness h) {
        h.fresh();
        for (int i = 1; i <= 100; i++) {
            h.due("feed", h.forge.feed(i, -i, 0, Integer.MIN_VALUE, Integer.MAX_VALUE), 20 * i);
        }
        for (int size = 2000; size > 1980; size--) {
            h.due("end", h.forge.end(size), size);
            h.due("feed to " + (size + 20), feed(h), HandshakeForge.FULL);
            h.due("end behind a refused feed", h.forge.end(size + 1), HandshakeForge.REFUSED);
        }
        h.due("end", h.forge.end(1980), 1980);
        h.due("feed to 2000", feed(h), 2000);
        h.due("end", h.forge.end(1979), 1979);
        h.due("feed to 1999", feed(h), 1999);
        h.due("feed to 2019", feed(h), HandshakeForge.FULL);
    }

    /** A feed that finds no room leaves the bytes as they are. */
    private static void fullKeeps(Harness h) {
        h.fresh();
        h.tape("int v; { v = 6; }" + " ".repeat(1964));
        h.due("feed", h.forge.feed(-1, -1, -1, -1, -1), HandshakeForge.FULL);
        h.due("compile", h.forge.compile(), HandshakeForge.NONE);
        h.due("run", h.forge.run(9), 1);
        h.holds("v", 6);
    }

    /** n; REFUSED if it has less, or n is below 0. */
    private static void cuts(Harness h) {
        h.fresh();
        for (int size = 20; size >= 0; size--) {
            h.due("feed", feed(h), 20);
            h.due("end", h.forge.end(size), size);
            h.due("end of one more", h.forge.end(size + 1), HandshakeForge.REFUSED);
            h.due("end below 0", h.forge.end(-1), HandshakeForge.REFUSED);
            h.due("end far below 0", h.forge.end(Integer.MIN_VALUE), HandshakeForge.REFUSED);
            h.due("end far beyond", h.forge.end(Integer.MAX_VALUE), HandshakeForge.REFUSED);
            h.due("end of all", h.forge.end(size), size);
            h.due("feed behind a cut", feed(h), size + 20);
            h.due("end of nothing", h.forge.end(0), 0);
            h.due("end beyond nothing", h.forge.end(1), HandshakeForge.REFUSED);
        }
    }

    /** The highest byte of each number comes first, the first number before the others. */
    private static void order(Harness h) {
        h.fresh();
        h.forge.feed('i' << 24 | 'n' << 16 | 't' << 8 | ' ', 'v' << 24 | ';' << 16 | '{' << 8 | 'v',
                '=' << 24 | '4' << 16 | '2' << 8 | ';', '}' << 24 | 255 << 16, 0);
        h.due("end", h.forge.end(13), 13);
        h.due("compile", h.forge.compile(), HandshakeForge.NONE);
        h.due("run", h.forge.run(9), 1);
        h.holds("v", 42);
        for (int place = 0; place < 20; place++) {
            int[] numbers = new int[5];
            java.util.Arrays.fill(numbers, 0x20202020);
            numbers[place / 4] ^= (32 ^ '}') << 24 - place % 4 * 8;
            h.forge.feed(numbers[0], numbers[1], numbers[2], numbers[3], numbers[4]);
            h.due("the place of a }", h.forge.compile(), place);
        }
    }

    /** Each byte is one of 0 to 255, whatever the sign of its number. */
    private static void bytes(Harness h) {
        h.fresh();
        h.forge.feed(-1, 0, 0, 0, 0);
        h.due("compile of 255s", h.forge.compile(), 0);
        h.forge.feed(0x207b7d20, 0x20202020, 0x20202020, 0x20202020, 0x202020a0);
        h.due("compile with 160 behind all", h.forge.compile(), 19);
        h.forge.feed(0x207b7d20, 0x20202020, 0x20202020, 0x20202020, 0x20202020);
        h.due("compile with blanks alone behind all", h.forge.compile(), HandshakeForge.NONE);
    }

    private static void longestText(Harness h) {
        String text = "int v; { v = 1; }";
        h.ended(" ".repeat(1983) + text);
        h.holds("v", 1);
        h.ended(" ".repeat(1982) + text);
        h.fault(text + " ".repeat(1982) + "@;");
        h.fault(text + " ".repeat(1981) + "@;");
        h.fault("{" + " ".repeat(1999) + "@");
        h.fault("{" + " ".repeat(1998) + "@");
        // As many tokens as bytes.
        h.ended("{" + "{}".repeat(999) + "}");
        h.counts(0, 1000);
        h.fault("{" + "{}".repeat(999) + "{@");
        h.fault("{" + "{}".repeat(999) + "@");
        h.fault("{" + "{}".repeat(998) + "}@}");
    }

    private static void emptied(Harness h, String call) {
        h.due("end of one behind " + call, h.forge.end(1), HandshakeForge.REFUSED);
        h.due("feed behind " + call, feed(h), 20);
        h.forge.end(0);
    }

    /** Calls that read it empty it, whatever they answer. */
    private static void emptied(Harness h) {
        h.fresh();
        h.tape("v");
        h.due("look without a circuit", h.forge.look(0), Harness.NO_VALUE);
        emptied(h, "look without a circuit");
        h.fault("{@");
        emptied(h, "a fault");
        h.fault("int v; { @par { v = 1; | v = 2; } }");
        emptied(h, "a fault of a par");
        h.good("int v; { while (1) skip; }");
        emptied(h, "compile");
        h.holds("v", 0);
        emptied(h, "look");
        h.holds("nosuch", Harness.NO_VALUE);
        emptied(h, "look for what is not there");
        h.due("run", h.forge.run(9), 3);
        h.holds("v", Harness.NO_VALUE);
        emptied(h, "look when lost");
        h.due("compile of nothing", h.forge.compile(), 0);
    }

    private static void notRead(Harness h) {
        h.fresh();
        for (String circuit : new String[] {"", "in i; out o; { o ! 1; while (1) skip; }"}) {
            if (!circuit.isEmpty()) {
                h.good(circuit);
            }
            h.tape("{}");
            h.forge.give(0, 0);
            h.forge.run(0);
            h.forge.run(9);
            h.forge.take(0);
            h.forge.begin();
            h.forge.count(0);
            h.forge.end(-1);
            h.forge.end(3);
            h.due("end of a tape nobody read", h.forge.end(2), 2);
            h.due("compile", h.forge.compile(), HandshakeForge.NONE);
        }
    }
}
