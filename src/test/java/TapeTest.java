/** Promises 2 and 3: feed and end. */
public final class TapeTest {
    public static void main(String[] args) {
        Harness h = new Harness("TapeTest");
        fills(h);
        cuts(h);
        order(h);
        emptied(h);
        h.close();
    }

    private static void fills(Harness h) {
        for (int i = 1; i <= 100; i++) {
            h.due("feed", h.forge.feed(i, -i, 0, Integer.MIN_VALUE, Integer.MAX_VALUE), 20 * i);
        }
        h.due("feed of a full tape", h.forge.feed(1, 2, 3, 4, 5), HandshakeForge.FULL);
        h.due("end behind a refused feed", h.forge.end(2000), 2000);
        h.due("end of more than it has", h.forge.end(2001), HandshakeForge.REFUSED);
        h.due("end", h.forge.end(1981), 1981);
        h.due("feed to 2001", h.forge.feed(1, 2, 3, 4, 5), HandshakeForge.FULL);
        h.due("end", h.forge.end(1980), 1980);
        h.due("feed to 2000", h.forge.feed(1, 2, 3, 4, 5), 2000);
    }

    private static void cuts(Harness h) {
        h.fresh();
        h.due("feed", h.forge.feed(0, 0, 0, 0, 0), 20);
        h.due("end below 0", h.forge.end(-1), HandshakeForge.REFUSED);
        h.due("end far below 0", h.forge.end(Integer.MIN_VALUE), HandshakeForge.REFUSED);
        h.due("end far beyond", h.forge.end(Integer.MAX_VALUE), HandshakeForge.REFUSED);
        h.due("end beyond", h.forge.end(21), HandshakeForge.REFUSED);
        h.due("end of all", h.forge.end(20), 20);
        h.due("end", h.forge.end(7), 7);
        h.due("end of what was cut", h.forge.end(8), HandshakeForge.REFUSED);
        h.due("feed behind a cut", h.forge.feed(0, 0, 0, 0, 0), 27);
        h.due("end of nothing", h.forge.end(0), 0);
        h.due("end beyond nothing", h.forge.end(1), HandshakeForge.REFUSED);
    }

    /** The highest byte of each number comes first, the first number before the others. */
    private static void order(Harness h) {
        h.fresh();
        h.forge.feed('i' << 24 | 'n' << 16 | 't' << 8 | ' ', 'v' << 24 | ';' << 16 | '{' << 8 | 'v',
                '=' << 24 | '4' << 16 | '2' << 8 | ';', '}' << 24 | 255 << 16, 0);
        h.due("end", h.forge.end(13), 13);
        h.due("compile", h.forge.compile(), HandshakeForge.NONE);
        h.due("run", h.forge.run(9), 1);
        h.holds("v", 42);
        String text = "int v; { v = 1; }" + " ".repeat(1983);
        h.good(text);
        h.fault("int v; { v = 1; }" + " ".repeat(1982) + "@;");
    }

    /** Calls that read the tape empty it, those that read nothing do not. */
    private static void emptied(Harness h) {
        h.fresh();
        h.tape("{}");
        h.forge.run(1);
        h.forge.begin();
        h.forge.count(0);
        h.forge.give(0, 0);
        h.forge.take(0);
        h.due("end of a tape nobody read", h.forge.end(2), 2);
        h.due("compile", h.forge.compile(), HandshakeForge.NONE);
        h.due("end behind compile", h.forge.end(1), HandshakeForge.REFUSED);
        h.due("compile of nothing", h.forge.compile(), 0);
        h.tape("{");
        h.due("compile", h.forge.compile(), 1);
        h.due("end behind a fault", h.forge.end(1), HandshakeForge.REFUSED);
        h.tape("v");
        h.forge.look(0);
        h.due("end behind look", h.forge.end(1), HandshakeForge.REFUSED);
    }
}
