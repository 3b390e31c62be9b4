/** Promise 4: the tokens of a text, and the places of those that are none. */
public final class TokenTest {
    public static void main(String[] args) {
        Harness h = new Harness("TokenTest");
        blanks(h);
        names(h);
        numbers(h);
        signs(h);
        h.close();
    }

    private static void blanks(Harness h) {
        h.ended("int v;\n\n  {\nv\n=\n6\n;\n}\n ");
        h.holds("v", 6);
        h.ended("int v;{v=6;}");
        h.holds("v", 6);
        h.fault("int v;@\t{}");
        h.fault("int v;@\r{}");
        h.fault("@\0");
        h.fault("{}@\0");
        h.fault("@");
        h.fault("  \n @");
        h.fault("{ @");
        h.fault("{} @\u00ff");
        h.fault("{} @{}");
    }

    private static void names(Harness h) {
        h.ended("int abcdefgh; int a1234567; { abcdefgh = 3; a1234567 = 4; }");
        h.holds("abcdefgh", 3);
        h.holds("a1234567", 4);
        h.fault("int @abcdefghi; {}");
        h.fault("int @a12345678; {}");
        h.fault("int @A; {}");
        h.fault("int a@B; {}");
        h.fault("int @_; {}");
        h.fault("int @1a; {}");
        h.fault("@intv; {}");
        h.ended("int var1; int skips; int i; { var1 = 1; skips = 2; i = var1 + skips; }");
        h.holds("i", 3);
        for (String word : "var int array chan in out proc fun if else while repeat par return skip".split(" ")) {
            h.fault("int @" + word + "; {}");
        }
    }

    private static void numbers(Harness h) {
        h.ended("var v:16; { v = 65535; }");
        h.holds("v", 65535);
        h.ended("var v:16; { v = 0000000000000000000000065535; }");
        h.holds("v", 65535);
        h.fault("int v; { v = @65536; }");
        h.fault("int v; { v = 1 + @99999999999999999999999999; }");
        h.fault("int v; { v = 12@ab; }");
        h.good("{ repeat 65535 skip; }");
        h.fault("{ repeat @65536 skip; }");
    }

    private static void signs(Harness h) {
        h.ended("int v; { v = 1<<2<=3!=4==5&&6||7; }");
        h.holds("v", 1);
        h.fault("int v; { v = 1 & @& 2; }");
        h.fault("int v; { v = 1 @= = 2; }");
        h.fault("int v; { v @== 2; }");
        h.fault("int v; { v = 1 <@> 2; }");
        h.fault("int v; { v = 1 <<@< 2; }");
        h.fault("{ par { skip; @|| skip; } }");
        h.fault("int v; { v = @\"; }");
        h.fault("int v; { v = @#; }");
        h.fault("int v; { v = 1@.5; }");
        h.ended("int v; { v = 5!=!4; }");
        h.holds("v", 1);
        h.ended("int v; { v = 5>=-4; }");
        h.holds("v", 1);
    }
}
