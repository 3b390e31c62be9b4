/** Promise 4: the tokens of a text, and the places of those that are none. */
public final class TokenTest {
    private static final String WORDS = "var int array chan in out proc fun if else while repeat par return skip";

    public static void main(String[] args) {
        Harness h = new Harness("TokenTest");
        blanks(h);
        anywhereBetween(h);
        everyByte(h);
        names(h);
        longNames(h);
        words(h);
        numbers(h);
        greatNumbers(h);
        signs(h);
        signsOfTwo(h);
        h.close();
    }

    /** Blanks (32) and byte 10 between where one likes, and no other byte. */
    private static void blanks(Harness h) {
        h.ended("int v;\n\n  {\nv\n=\n6\n;\n}\n ");
        h.holds("v", 6);
        h.ended("int v;{v=6;}");
        h.holds("v", 6);
        for (char other : new char[] {0, 9, 11, 13, 31, 33, 127, 160, 255}) {
            h.fault("int v;@" + other + "{}");
            h.fault("{}@" + other);
            h.fault("@" + other);
        }
        h.fault("@");
        h.fault("  \n @");
        h.fault("{ @");
        h.fault("{} @{}");
    }

    /** Between any two tokens, and none where the tokens tell themselves apart: the circuit is the same. */
    private static void anywhereBetween(Harness h) {
        String text = "var b : 3 ; int v ; array a [ 4 ] ; chan c ; in i ; out o ; proc p ( x , y ) { int z ; z = x ; v = y ; } "
                + "fun f ( x ) { int y ; y = - x ; return ( y + 1 ) ; } { int w ; if ( v ) skip ; else { } while ( v < 3 ) "
                + "v = v + 1 ; repeat 2 w = w + 1 ; a [ v ] = w << 2 ; p ( 1 , v * w ) ; par { o ! f ( 2 ) ; | b = ~ 0 >> 1 ; } }";
        String close = text.replaceAll(" (?=[^a-z0-9])|(?<=[^a-z0-9]) ", "");
        for (String blank : new String[] {" ", "\n", "  ", "\n \n"}) {
            sameCircuit(h, text.replace(" ", blank));
            sameCircuit(h, blank + close + blank);
        }
        h.due("the text with as few blanks as can be", close.chars().filter(c -> c == ' ').count(), 13);
        sameCircuit(h, close);
    }

    private static void sameCircuit(Harness h, String text) {
        h.ended(text);
        h.counts(0, 48);
        h.counts(7, 68);
        h.holds("v", 6);
        h.holds("a", 3, 8);
        h.holds("b", 7);
        h.due("take", h.forge.take(0), -1);
    }

    /** Every byte behind a number: it goes on with it, or is the first of what can or can not stand there, or of none. */
    private static void everyByte(Harness h) {
        for (char c = 0; c < 256; c++) {
            String text = "int v; { v = 1" + c + "; }";
            if (c == 32 || c == 10 || c >= '0' && c <= '9') {
                h.good(text);
            } else if ("+-*/%&|^<>;".indexOf(c) >= 0) {
                h.fault("int v; { v = 1" + c + "@; }");
            } else {
                h.fault("int v; { v = 1@" + c + "; }");
            }
        }
    }

    /** A small letter, then small letters and digits. */
    private static void names(Harness h) {
        for (char c = 0; c < 256; c++) {
            boolean letter = c >= 'a' && c <= 'z';
            boolean digit = c >= '0' && c <= '9';
            boolean blank = c == 32 || c == 10;
            String first = "int " + c + "; {}";
            String second = "int b" + c + "; {}";
            due(h, first, letter ? HandshakeForge.NONE : blank ? 5 : 4);
            due(h, second, letter || digit || blank ? HandshakeForge.NONE : c == ';' ? 6 : 5);
        }
        h.fault("int @1a; {}");
        h.fault("@intv; {}");
        h.ended("int v; int v0; int v00; int va; { v = 1; v0 = 2; v00 = 3; va = 4; }");
        h.holds("v", 1);
        h.holds("v0", 2);
        h.holds("v00", 3);
        h.holds("va", 4);
    }

    private static void due(Harness h, String text, int want) {
        h.due("compile of '" + text + "'", h.compiled(text), want);
    }

    /** At most 8; of a longer one the place of its first letter is the fault, wherever it stands. */
    private static void longNames(Harness h) {
        for (String name : new String[] {"a", "ab", "abcdefg", "abcdefgh", "a1234567", "zzzzzzzz", "skipskip"}) {
            h.ended("int " + name + "; { " + name + " = 3; }");
            h.holds(name, 3);
        }
        for (String name : new String[] {"abcdefghi", "a12345678", "abcdefghij", "skipskips", "a".repeat(16),
            "abcdefghabcdefgh", "a".repeat(900)}) {
            h.fault("int @" + name + "; {}");
            h.fault("@" + name);
            h.fault("{ @" + name + " = 1; }");
            h.fault("int v; { v = @" + name + "; }");
            h.fault("int abcdefgh; { abcdefgh = 1; @" + name + " = 2; }");
        }
        // All 8 tell names apart, the first and the last as well.
        h.ended("int abcdefgh; int abcdefgi; int bbcdefgh; int abcdefg; "
                + "{ abcdefgh = 1; abcdefgi = 2; bbcdefgh = 3; abcdefg = 4; }");
        h.holds("abcdefgh", 1);
        h.holds("abcdefgi", 2);
        h.holds("bbcdefgh", 3);
        h.holds("abcdefg", 4);
    }

    /** Words are no names, but a letter more or less makes one of each. */
    private static void words(Harness h) {
        for (String word : WORDS.split(" ")) {
            h.fault("int @" + word + "; {}");
            h.good("int " + word + "s; {}");
            h.good("int " + word + "1; {}");
            h.good("int x" + word + "; {}");
            String shorter = word.substring(0, word.length() - 1);
            if (!WORDS.contains(shorter + " ")) {
                h.good("int " + shorter + "; {}");
            }
        }
        h.ended("int var1; int skips; int i; { var1 = 1; skips = 2; i = var1 + skips; }");
        h.holds("i", 3);
    }

    /** Digits, at most 65535. */
    private static void numbers(Harness h) {
        for (int n : new int[] {0, 1, 9, 10, 99, 100, 9999, 10000, 32767, 32768, 65529, 65530, 65534, 65535}) {
            for (String zeros : new String[] {"", "0", "000000000000000000000000"}) {
                h.ended("var v:16; { v = " + zeros + n + "; }");
                h.holds("v", n);
            }
        }
        h.fault("int v; { v = 12@ab; }");
        h.fault("int v; { v = 1 @2; }");
        h.fault("int v; { v = 1@.5; }");
    }

    /** Of a greater one the place of its first digit is the fault, also where it would be small again by wrapping. */
    private static void greatNumbers(Harness h) {
        for (String number : new String[] {"65536", "65537", "65540", "65600", "66000", "70000", "99999", "100000",
            "131071", "2147483647", "2147483648", "4294967295", "4294967296", "4294967297", "9223372036854775807",
            "9223372036854775808", "18446744073709551615", "18446744073709551616", "18446744073709551617",
            "340282366920938463463374607431768211457", "9".repeat(900), "1" + "0".repeat(900), "0065536"}) {
            h.fault("int v; { v = @" + number + "; }");
            h.fault("int v; { v = 1 + @" + number + "; }");
            h.fault("@" + number);
            h.fault("var v:@" + number + "; {}");
            h.fault("{ repeat @" + number + " skip; }");
        }
    }

    private static void signs(Harness h) {
        h.ended("int v; { v = 1<<2<=3!=4==5&&6||7; }");
        h.holds("v", 1);
        h.ended("int v; { v = 5!=!4; }");
        h.holds("v", 1);
        h.ended("int v; { v = 5>=-4; }");
        h.holds("v", 1);
        h.fault("int v; { v = @\"; }");
        h.fault("int v; { v = @#; }");
    }

    /** Each as long as can be, so that a sign of two is none of one behind another, and three are two and one. */
    private static void signsOfTwo(Harness h) {
        for (String sign : new String[] {"&&", "||", "==", "!=", "<=", ">=", "<<", ">>"}) {
            h.good("int v; { v = 1 " + sign + " 2; }");
            h.fault("int v; { v = 1 " + sign + "@; }");
        }
        h.fault("int v; { v = 1 & @& 2; }");
        h.fault("int v; { v = 1 | @| 2; }");
        h.fault("int v; { v = 1 @= = 2; }");
        h.fault("int v; { v = 1 @! = 2; }");
        h.fault("int v; { v = 1 < @= 2; }");
        h.fault("int v; { v = 1 > @= 2; }");
        h.fault("int v; { v = 1 < @< 2; }");
        h.fault("int v; { v = 1 > @> 2; }");
        h.fault("int v; { v @== 2; }");
        h.fault("int v; { v = 1 <@> 2; }");
        h.fault("int v; { v = 1 <<@< 2; }");
        h.fault("int v; { v = 1 <<@= 2; }");
        h.fault("int v; { v = 1 &&@& 2; }");
        h.fault("int v; { v = 1 ==@= 2; }");
        h.fault("{ par { skip; @|| skip; } }");
        // Other pairs are two signs.
        h.ended("int v; { v = 6--4; v = v+-~-3; v = v*!0; }");
        h.holds("v", 8);
    }
}
