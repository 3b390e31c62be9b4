/** Promise 1: a new object has no circuit. */
public final class NewObjectTest {
    public static void main(String[] args) {
        Harness h = new Harness("NewObjectTest");
        h.due("REFUSED", HandshakeForge.REFUSED, -1);
        h.due("NONE", HandshakeForge.NONE, -2);
        h.due("FULL", HandshakeForge.FULL, -3);
        h.due("begin", h.forge.begin(), HandshakeForge.NONE);
        h.due("run", h.forge.run(1), HandshakeForge.NONE);
        h.due("run of 0", h.forge.run(0), HandshakeForge.NONE);
        for (int i = -1; i <= 4; i++) {
            h.due("give", h.forge.give(i, 1), HandshakeForge.NONE);
            h.due("take", h.forge.take(i), Harness.NO_VALUE);
        }
        for (int what = 0; what <= 12; what++) {
            h.counts(what, 0);
        }
        h.holds("v", Harness.NO_VALUE);
        h.due("end", h.forge.end(0), 0);
        h.due("end of more than nothing", h.forge.end(1), HandshakeForge.REFUSED);
        two(h);
        h.close();
    }

    /** One object's circuit is not another one's. */
    private static void two(Harness h) {
        h.ended("int v; { v = 7; }");
        h.fresh();
        h.due("begin", h.forge.begin(), HandshakeForge.NONE);
        h.holds("v", Harness.NO_VALUE);
    }
}
