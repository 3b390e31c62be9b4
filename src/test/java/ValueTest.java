/** Promise 6: the values of E, what variables, arrays and outs keep of them, and subscripts. */
public final class ValueTest {
    private static final String MIN = "(1 << 31)";
    private static final String MAX = "((1 << 31) - 1)";

    public static void main(String[] args) {
        Harness h = new Harness("ValueTest");
        wraps(h);
        divisions(h);
        noDivisor(h);
        shifts(h);
        truths(h);
        comparisons(h);
        bitwise(h);
        levels(h);
        everyPairOfSigns(h);
        varsKeep(h);
        intsKeep(h);
        subscripts(h);
        subscriptsOfAll(h);
        h.close();
    }

    /** The 32 bits of an E, looked at by its halves. */
    private static void value(Harness h, String e, int want) {
        h.ended("int lo; int hi; { lo = " + e + "; hi = (" + e + ") >> 16; }");
        h.holds("lo", (short) want);
        h.holds("hi", want >> 16);
    }

    /** Ints of 32 bits that wrap. */
    private static void wraps(Harness h) {
        value(h, MAX, Integer.MAX_VALUE);
        value(h, MAX + " - 1", Integer.MAX_VALUE - 1);
        value(h, MAX + " + 1", Integer.MIN_VALUE);
        value(h, MIN, Integer.MIN_VALUE);
        value(h, MIN + " + 1", Integer.MIN_VALUE + 1);
        value(h, MIN + " - 1", Integer.MAX_VALUE);
        value(h, MAX + " + " + MAX, -2);
        value(h, MIN + " + " + MIN, 0);
        value(h, "-" + MIN, Integer.MIN_VALUE);
        value(h, "-" + MAX, Integer.MIN_VALUE + 1);
        value(h, "~" + MAX, Integer.MIN_VALUE);
        value(h, "46340 * 46340", 2147395600);
        value(h, "46341 * 46341", 46341 * 46341);
        value(h, "65535 * 65535", 65535 * 65535);
        value(h, "65535 * 65535 * 3 + 1", 65535 * 65535 * 3 + 1);
        value(h, "(65535 + 1) * (65535 + 1)", 0);
        value(h, "(65535 + 1) * 32768", Integer.MIN_VALUE);
        value(h, "(65535 + 1) * 32767", 65536 * 32767);
        value(h, "0 - 65535 * 32769", -65535 * 32769);
    }

    /** a / b is cut to 0, a % b has the sign of a. */
    private static void divisions(Harness h) {
        for (int a : new int[] {-7, -6, -2, -1, 0, 1, 2, 6, 7}) {
            for (int b : new int[] {-3, -2, -1, 1, 2, 3}) {
                value(h, "(" + a + ") / (" + b + ")", a / b);
                value(h, "(" + a + ") % (" + b + ")", a % b);
            }
        }
        value(h, MIN + " / -1", Integer.MIN_VALUE);
        value(h, MIN + " % -1", 0);
        value(h, MAX + " / -1", -Integer.MAX_VALUE);
        value(h, MIN + " / 1", Integer.MIN_VALUE);
        value(h, MIN + " / " + MIN, 1);
        value(h, MIN + " / " + MAX, -1);
        value(h, MIN + " % " + MAX, -1);
        value(h, MAX + " % " + MIN, Integer.MAX_VALUE);
    }

    /** Of b 0 both are 0; -1 and 1 beside it are not. */
    private static void noDivisor(Harness h) {
        for (String a : new String[] {"0", "1", "-1", "7", "-7", MIN, MAX}) {
            value(h, a + " / 0", 0);
            value(h, a + " % 0", 0);
            value(h, a + " / (3 - 3)", 0);
        }
        value(h, "7 / 1", 7);
        value(h, "7 / -1", -7);
        value(h, "7 / ((65535 + 1) * (65535 + 1))", 0);
        value(h, "7 % ((65535 + 1) * (65535 + 1))", 0);
        h.ended("int v; int w; int z; { v = 7 / z; w = v + 5 % z + 3; }");
        h.holds("v", 0);
        h.holds("w", 3);
    }

    /** By b's lowest 5 bits. */
    private static void shifts(Harness h) {
        for (int b : new int[] {0, 1, 15, 16, 30, 31, 32, 33, 63, 64, 65, 65535, -1, -31, -32, -33}) {
            int lowest = b & 31;
            value(h, "5 << (" + b + ")", 5 << lowest);
            value(h, "-1 << (" + b + ")", -1 << lowest);
            value(h, "12345 >> (" + b + ")", 12345 >> lowest);
            value(h, "-12345 >> (" + b + ")", -12345 >> lowest);
            value(h, MIN + " >> (" + b + ")", Integer.MIN_VALUE >> lowest);
            value(h, MAX + " >> (" + b + ")", Integer.MAX_VALUE >> lowest);
        }
        value(h, "1 << " + MIN, 1);
        value(h, "1 << " + MAX, 1 << 31);
    }

    /** Truths are 1, 0; ! 0 is 1, of others 0. */
    private static void truths(Harness h) {
        String[] others = {"1", "2", "-1", "65535", "(65535 + 1)", MIN, MAX};
        value(h, "!0", 1);
        value(h, "0 && 0", 0);
        value(h, "0 || 0", 0);
        for (String other : others) {
            value(h, "!" + other, 0);
            value(h, "!!" + other, 1);
            value(h, other + " && 0", 0);
            value(h, "0 && " + other, 0);
            value(h, other + " && " + other, 1);
            value(h, other + " || 0", 1);
            value(h, "0 || " + other, 1);
            value(h, other + " || " + other, 1);
            h.ended("int v; int w; { if (" + other + ") v = 1; while (" + other + " * !w) w = 1; }");
            h.holds("v", 1);
            h.holds("w", 1);
        }
        value(h, "1 && 2", 1);
        value(h, "4 || 8", 1);
        h.ended("int v; { if (0) v = 1; while (0) v = 2; if ((65535 + 1) * (65535 + 1)) v = 3; }");
        h.holds("v", 0);
    }

    private static void comparisons(Harness h) {
        String[] rising = {MIN, "-2", "-1", "0", "1", "2", MAX};
        for (int i = 0; i < rising.length; i++) {
            for (int j = 0; j < rising.length; j++) {
                value(h, rising[i] + " < " + rising[j], i < j ? 1 : 0);
                value(h, rising[i] + " <= " + rising[j], i <= j ? 1 : 0);
                value(h, rising[i] + " > " + rising[j], i > j ? 1 : 0);
                value(h, rising[i] + " >= " + rising[j], i >= j ? 1 : 0);
                value(h, rising[i] + " == " + rising[j], i == j ? 1 : 0);
                value(h, rising[i] + " != " + rising[j], i != j ? 1 : 0);
            }
        }
        value(h, MIN + " == -" + MIN, 1);
    }

    private static void bitwise(Harness h) {
        value(h, "~0", -1);
        value(h, "~-1", 0);
        value(h, "- -5", 5);
        value(h, "-0", 0);
        value(h, "-~!0", 2);
        value(h, "6 & 3", 2);
        value(h, "6 | 3", 7);
        value(h, "6 ^ 3", 5);
        value(h, "-1 & " + MIN, Integer.MIN_VALUE);
        value(h, "1 | " + MIN, Integer.MIN_VALUE + 1);
        value(h, "-1 ^ " + MIN, Integer.MAX_VALUE);
    }

    private static void levels(Harness h) {
        value(h, "10 - 4 - 3", 3);
        value(h, "100 / 10 / 5 * 3 % 4", 2);
        value(h, "2 + 3 * 4", 14);
        value(h, "(2 + 3) * 4", 20);
        value(h, "1 << 2 + 1", 8);
        value(h, "1 << 2 << 1", 8);
        value(h, "256 >> 2 >> 1", 32);
        value(h, "1 < 2 << 1", 1);
        value(h, "5 > 4 > 3", 0);
        value(h, "0 == 1 < 0", 1);
        value(h, "3 & 2 == 2", 1);
        value(h, "4 ^ 6 & 3", 6);
        value(h, "1 | 2 ^ 3", 1);
        value(h, "2 && 4 | 0", 1);
        value(h, "1 || 0 && 0", 1);
        value(h, "(1 || 0) && 0", 0);
        value(h, "-2 * -3", 6);
        value(h, "-2 + 3", 1);
        value(h, "!0 + 1", 2);
        value(h, "~1 & 7", 6);
        value(h, "1 == 1 == 1", 1);
        value(h, "2 == 2 != 2", 1);
    }

    /** By levels, the later the tighter, each from the left: of any two in a row the right one goes first. */
    private static void everyPairOfSigns(Harness h) {
        String[] byLevels = {"||", "&&", "|", "^", "&", "== !=", "< <= > >=", "<< >>", "+ -", "* / %"};
        for (int i = 0; i < byLevels.length; i++) {
            for (int j = 0; j < byLevels.length; j++) {
                for (String first : byLevels[i].split(" ")) {
                    for (String second : byLevels[j].split(" ")) {
                        pairOfSigns(h, first, second, j > i);
                    }
                }
            }
        }
    }

    /** Compared with the same E in brackets, for so many values that for nearly all pairs the brackets matter. */
    private static void pairOfSigns(Harness h, String first, String second, boolean secondFirst) {
        String plain = "x " + first + " y " + second + " z";
        String left = "(x " + first + " y) " + second + " z";
        String right = "x " + first + " (y " + second + " z)";
        h.ended("int others; int x; int y; int z; { while (x < 6) { y = 0; while (y < 6) { z = 0; while (z < 6) { "
                + "others = others + ((" + plain + ") != (" + (secondFirst ? right : left) + ")); "
                + "z = z + 1; } y = y + 1; } x = x + 1; } }");
        h.holds("others", 0);
    }

    /** What is kept of a value however it is assigned. */
    private static void kept(Harness h, String declaration, int value, int want) {
        h.ended(declaration + " { v = " + value + "; }");
        h.holds("v", want);
        h.ended("chan c; " + declaration + " { par { c ! " + value + "; | c ? v; } }");
        h.holds("v", want);
        h.good("in i; " + declaration + " { i ? v; }");
        h.forge.give(0, value);
        h.due("run", h.forge.run(9), 1);
        h.holds("v", want);
    }

    /** A variable that is assigned to keeps the bits that it has, a var without sign. */
    private static void varsKeep(Harness h) {
        for (int bits = 1; bits <= 16; bits++) {
            int full = (1 << bits) - 1;
            for (int value : new int[] {0, 1, full - 1, full, Math.min(full + 1, 65535), -1, -full}) {
                kept(h, "var v:" + bits + ";", value, value & full);
            }
        }
        h.ended("var v:16; int w; { v = 65535 + 1; w = 5; v = v + 65535; w = v >> 8; }");
        h.holds("v", 65535);
        h.holds("w", 255);
        h.ended("var v:4; { v = 15; v = v + 1; }");
        h.holds("v", 0);
        h.ended("var v:4; { v = v - 1; }");
        h.holds("v", 15);
        h.ended("var v:4; { v = 1 << 31 | 16 | 5; }");
        h.holds("v", 5);
    }

    /** An int keeps 16 with it; so does a parameter, an item, and a value that an out holds. */
    private static void intsKeep(Harness h) {
        for (int value : new int[] {0, 1, -1, 32766, 32767, 32768, 32769, 65535, -32767, -32768, -32769, -65535}) {
            kept(h, "int v;", value, (short) value);
            h.ended("array a[2]; chan c; out o; proc p(x) { a[0] = x; } fun f(x) {return x >> 1;} int v; int w; "
                    + "{ p(" + value + "); v = f(" + value + "); o ! " + value + "; "
                    + "par { c ! " + value + "; | c ? a[1]; } { int x; x = " + value + "; w = x >> 1; } }");
            h.holds("a", 0, (short) value);
            h.holds("a", 1, (short) value);
            h.holds("v", (short) value >> 1);
            h.holds("w", (short) value >> 1);
            h.due("take", h.forge.take(0), (short) value);
        }
        h.ended("int v; { v = 32767; v = v + 1; }");
        h.holds("v", -32768);
        h.ended("int v; { v = -32768; v = v - 1; }");
        h.holds("v", 32767);
        // What a fun answers is no variable: all 32 bits are there.
        h.ended("int v; fun f(x) {return x * 4 + 1;} { v = f(20000) >> 8; }");
        h.holds("v", 80001 >> 8);
    }

    /** The lowest bits that tell places. */
    private static void subscripts(Harness h) {
        for (int size = 1; size <= 64; size *= 2) {
            for (int subscript : new int[] {0, 1, size - 1, size, size + 1, 2 * size - 1, 65535, -1, -size, -size - 1}) {
                int place = Math.floorMod(subscript, size);
                h.ended("array z[64]; array a[" + size + "]; array y[64]; int v; { a[" + subscript + "] = 9; a[" + place
                        + "] = a[" + place + "] + 1; v = a[" + subscript + "]; }");
                h.holds("a", place, 10);
                h.holds("v", 10);
                h.holds("z", 63, 0);
                h.holds("y", 0, 0);
            }
        }
        h.ended("array a[4]; { a[" + MIN + "] = 1; a[" + MAX + "] = 2; a[65535 * 65535] = a[1] + 3; }");
        h.holds("a", 0, 1);
        h.holds("a", 1, 3);
        h.holds("a", 3, 2);
    }

    /** Of an item, of what is assigned to, of what is received; the subscript is found first. */
    private static void subscriptsOfAll(Harness h) {
        h.ended("array a[4]; array b[1]; int v; { a[5] = 1; a[-1] = 2; a[65534] = 3; b[77] = 4; v = a[9] + b[3] * 10; }");
        h.holds("a", 1, 1);
        h.holds("a", 3, 2);
        h.holds("a", 2, 3);
        h.holds("b", 0, 4);
        h.holds("v", 41);
        h.ended("array a[64]; array b[64]; { a[63] = 1; b[0] = 2; a[b[64]] = 3; }");
        h.holds("a", 63, 1);
        h.holds("a", 2, 3);
        h.holds("a", 0, 0);
        h.holds("b", 0, 2);
        h.ended("array a[4]; chan c; { par { { c ! 7; c ! 8; } | { c ? a[1 + 5]; c ? a[a[2]]; } } }");
        h.holds("a", 2, 7);
        h.holds("a", 3, 8);
        h.ended("array a[4]; fun f() { int n; n = n + 1; return n; } { a[f()] = f() * 10; a[f() + f()] = f(); }");
        h.holds("a", 1, 20);
        h.holds("a", 3, 5);
    }
}
