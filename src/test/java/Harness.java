/** What the tests share: texts and names put on the tape, answers compared, failures counted. */
final class Harness {
    static final long NO_VALUE = 1L << 40;

    private final String test;
    private int wrong = 0;
    private int checked = 0;
    /** Calls of the object at hand, roughly: it is good for 512. */
    private int calls = 0;
    HandshakeForge forge = new HandshakeForge();

    Harness(String test) {
        this.test = test;
    }

    void fresh() {
        calls = 0;
        forge = new HandshakeForge();
    }

    void due(String what, long got, long want) {
        checked++;
        calls++;
        if (got != want) {
            wrong++;
            System.out.println(test + ": " + what + " answered " + got + ", due is " + want);
        }
    }

    /** Puts a text on an empty tape. */
    void tape(String text) {
        for (int i = 0; i < text.length(); i += 20) {
            calls++;
            forge.feed(four(text, i), four(text, i + 4), four(text, i + 8), four(text, i + 12), four(text, i + 16));
        }
        forge.end(text.length());
    }

    private static int four(String text, int from) {
        int four = 0;
        for (int i = from; i < from + 4; i++) {
            four = four << 8 | (i < text.length() ? text.charAt(i) & 255 : 0);
        }
        return four;
    }

    int compiled(String text) {
        if (calls > 300) {
            fresh();
        }
        tape(text);
        return forge.compile();
    }

    void good(String text) {
        due("compile of '" + text + "'", compiled(text), HandshakeForge.NONE);
    }

    /** The fault is told by a mark: it lies where the text has its first '@', which is taken out. */
    void fault(String marked) {
        int place = marked.indexOf('@');
        String text = marked.substring(0, place) + marked.substring(place + 1);
        due("compile of '" + text + "'", compiled(text), place);
    }

    long look(String name, int k) {
        tape(name);
        return forge.look(k);
    }

    void holds(String name, long want) {
        due("look at " + name, look(name, 0), want);
    }

    void holds(String name, int k, long want) {
        due("look at " + name + " place " + k, look(name, k), want);
    }

    /** Compiles a text and runs it to its end. */
    void ended(String text) {
        good(text);
        due("run of '" + text + "'", forge.run(20000), 1);
    }

    /** A pattern so many times, its # replaced by 0, 1, 2 and so on. */
    static String many(String pattern, int n) {
        StringBuilder text = new StringBuilder();
        for (int i = 0; i < n; i++) {
            text.append(pattern.replace("#", "" + i)).append(' ');
        }
        return text.toString();
    }

    void counts(int what, long want) {
        due("count " + what, forge.count(what), want);
    }

    void close() {
        System.out.println(test + ": " + checked + " answers, " + wrong + " not as due");
        if (wrong != 0) {
            System.exit(1);
        }
    }
}
